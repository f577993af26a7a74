/-! ODDS out of moods -/
def sm (m : Nat → Int) : Nat → Int
  | 0 => 0
  | n + 1 => sm m n + m n
def lst (m : Nat → Int) : Nat → Nat
  | 0 => 3
  | n + 1 => if 0 < m n then n else lst m n
def od0 (m : Nat → Int) (d : Nat) : Int := if 0 < sm m 4 then 1000000000 * m d / sm m 4 else 0
def od (m : Nat → Int) (d : Nat) : Int := if d = lst m 4 then od0 m d + (1000000000 - sm (od0 m) 4) else od0 m d
theorem lst_r (m : Nat → Int) : ∀ n, n ≤ 4 → lst m n ≤ 3
  | 0, _ => Nat.le_refl 3
  | n + 1, h => by
    have := lst_r m n (by omega)
    unfold lst
    split <;> omega
/-- moods: within their bounds -/
def Mo4 (m : Nat → Int) : Prop := ∀ d, d < 4 → 0 ≤ m d ∧ m d ≤ 198
theorem sm4 (m : Nat → Int) : sm m 4 = m 0 + m 1 + m 2 + m 3 := by simp only [sm]; omega
theorem od0_n {m : Nat → Int} (h : Mo4 m) {d : Nat} (hd : d < 4) : 0 ≤ od0 m d := by
  unfold od0
  split
  · next hs => exact Int.ediv_nonneg (Int.mul_nonneg (by decide) (h d hd).1) (by omega)
  · exact Int.le_refl 0
theorem od0_s {m : Nat → Int} (h : Mo4 m) : sm (od0 m) 4 ≤ 1000000000 := by
  rw [sm4]
  unfold od0
  by_cases hs : 0 < sm m 4
  · rw [if_pos hs, if_pos hs, if_pos hs, if_pos hs]
    have e0 := Int.ediv_mul_le (1000000000 * m 0) (b := sm m 4) (by omega)
    have e1 := Int.ediv_mul_le (1000000000 * m 1) (b := sm m 4) (by omega)
    have e2 := Int.ediv_mul_le (1000000000 * m 2) (b := sm m 4) (by omega)
    have e3 := Int.ediv_mul_le (1000000000 * m 3) (b := sm m 4) (by omega)
    refine Int.le_of_mul_le_mul_right (a := sm m 4) ?_ hs
    rw [Int.add_mul, Int.add_mul, Int.add_mul]
    have e4 := sm4 m
    generalize 1000000000 * m 0 / sm m 4 * sm m 4 = x0 at *
    generalize 1000000000 * m 1 / sm m 4 * sm m 4 = x1 at *
    generalize 1000000000 * m 2 / sm m 4 * sm m 4 = x2 at *
    generalize 1000000000 * m 3 / sm m 4 * sm m 4 = x3 at *
    omega
  · rw [if_neg hs, if_neg hs, if_neg hs, if_neg hs]; decide
theorem lst_p {m : Nat → Int} (h : 0 < sm m 4) (h0 : Mo4 m) : 0 < m (lst m 4) := by
  rw [sm4] at h
  have a0 := h0 0 (by decide)
  have a1 := h0 1 (by decide)
  have a2 := h0 2 (by decide)
  have a3 := h0 3 (by decide)
  simp only [lst]
  split
  · assumption
  · split
    · assumption
    · split
      · assumption
      · split
        · assumption
        · omega
theorem lst_a {m : Nat → Int} {d : Nat} (hd : d < 4) (h : lst m 4 < d) : m d ≤ 0 := by
  simp only [lst] at h
  rcases (by omega : d = 0 ∨ d = 1 ∨ d = 2 ∨ d = 3) with rfl | rfl | rfl | rfl
  · omega
  · split at h
    · omega
    · split at h
      · omega
      · split at h <;> omega
  · split at h
    · omega
    · split at h <;> omega
  · split at h <;> omega
theorem lst_3 {m : Nat → Int} (h : sm m 4 ≤ 0) (h0 : Mo4 m) : lst m 4 = 3 := by
  rw [sm4] at h
  have a0 := h0 0 (by decide)
  have a1 := h0 1 (by decide)
  have a2 := h0 2 (by decide)
  have a3 := h0 3 (by decide)
  simp only [lst]
  rw [if_neg (by omega), if_neg (by omega), if_neg (by omega), if_neg (by omega)]
theorem od0_1 {m : Nat → Int} (h0 : Mo4 m) {d : Nat} (hd : d < 4) (h : 0 < m d) : 0 < od0 m d := by
  have a0 := h0 0 (by decide)
  have a1 := h0 1 (by decide)
  have a2 := h0 2 (by decide)
  have a3 := h0 3 (by decide)
  have hs := sm4 m
  have hp : 0 < sm m 4 := by
    rcases (by omega : d = 0 ∨ d = 1 ∨ d = 2 ∨ d = 3) with rfl | rfl | rfl | rfl <;> omega
  unfold od0
  rw [if_pos hp]
  have : 1 ≤ 1000000000 * m d / sm m 4 := by
    rw [Int.le_ediv_iff_mul_le hp]
    omega
  omega
theorem od0_0 {m : Nat → Int} {d : Nat} (h : m d = 0) : od0 m d = 0 := by
  unfold od0
  split
  · rw [h, Int.mul_zero, Int.zero_ediv]
  · rfl
theorem od_r {m : Nat → Int} (h : Mo4 m) {d : Nat} (hd : d < 4) : 0 ≤ od m d ∧ od m d ≤ 1000000000 := by
  have s := od0_s h
  have e := sm4 (od0 m)
  have a0 := od0_n h (d := 0) (by decide)
  have a1 := od0_n h (d := 1) (by decide)
  have a2 := od0_n h (d := 2) (by decide)
  have a3 := od0_n h (d := 3) (by decide)
  unfold od
  rcases (by omega : d = 0 ∨ d = 1 ∨ d = 2 ∨ d = 3) with rfl | rfl | rfl | rfl <;> split <;> omega
theorem od_s {m : Nat → Int} : od m 0 + od m 1 + od m 2 + od m 3 = 1000000000 := by
  have e := sm4 (od0 m)
  have l := lst_r m 4 (by decide)
  unfold od
  rcases (by omega : lst m 4 = 0 ∨ lst m 4 = 1 ∨ lst m 4 = 2 ∨ lst m 4 = 3) with h | h | h | h <;> rw [h] <;> simp only [Nat.reduceEqDiff, if_true, if_false] <;> omega
theorem od_l {m : Nat → Int} (h : Mo4 m) : 0 < od m (lst m 4) := by
  have s := od0_s h
  unfold od
  rw [if_pos rfl]
  by_cases hs : 0 < sm m 4
  · have := od0_1 h (d := lst m 4) (by have := lst_r m 4 (by decide); omega) (lst_p hs h)
    omega
  · have : ∀ d, od0 m d = 0 := fun d => by unfold od0; rw [if_neg hs]
    rw [sm4, this, this, this, this, this]
    decide
theorem od_a {m : Nat → Int} (h : Mo4 m) {d : Nat} (hd : d < 4) (hl : lst m 4 < d) : od m d = 0 := by
  unfold od
  rw [if_neg (by omega)]
  have := lst_a hd hl
  have := h d hd
  exact od0_0 (by omega)
/-- the last deed with odds above 0 -/
theorem lst_od {m : Nat → Int} (h : Mo4 m) : lst (od m) 4 = lst m 4 := by
  have l := lst_r m 4 (by decide)
  have p := od_l h
  have a1 := @od_a m h 1 (by decide)
  have a2 := @od_a m h 2 (by decide)
  have a3 := @od_a m h 3 (by decide)
  generalize lst m 4 = k at *
  simp only [lst]
  rcases (by omega : k = 0 ∨ k = 1 ∨ k = 2 ∨ k = 3) with rfl | rfl | rfl | rfl
  · rw [if_neg (by rw [a3 (by decide)]; decide), if_neg (by rw [a2 (by decide)]; decide), if_neg (by rw [a1 (by decide)]; decide), if_pos p]
  · rw [if_neg (by rw [a3 (by decide)]; decide), if_neg (by rw [a2 (by decide)]; decide), if_pos p]
  · rw [if_neg (by rw [a3 (by decide)]; decide), if_pos p]
  · rw [if_pos p]
/-- a loop: one turn a number -/
theorem lp {σ : Type} {n : Nat} {F : Nat → σ → pz_A} {I : Nat → σ → Prop} (h : ∀ i s, i < n → I i s → ∃ s', I (i + 1) s' ∧ F i s = F (i + 1) s') : ∀ (k i : Nat) (s : σ), i + k = n → I i s → ∃ s', I n s' ∧ F i s = F n s'
  | 0, i, s, hk, hi => by
    have : i = n := by omega
    subst this
    exact ⟨s, hi, rfl⟩
  | k + 1, i, s, hk, hi => by
    obtain ⟨s1, h1, e1⟩ := h i s (by omega) hi
    obtain ⟨s2, h2, e2⟩ := lp h k (i + 1) s1 (by omega) h1
    exact ⟨s2, h2, e1.trans e2⟩
theorem lp0 {σ : Type} (n : Nat) {F : Nat → σ → pz_A} (I : Nat → σ → Prop) {s : σ} (h0 : I 0 s) (h : ∀ i s, i < n → I i s → ∃ s', I (i + 1) s' ∧ F i s = F (i + 1) s') : ∃ s', I n s' ∧ F 0 s = F n s' := lp h n 0 s (by omega) h0
/-- a loop that may end early with an answer -/
theorem lq {σ : Type} {n : Nat} {F : Nat → σ → pz_A} {I : Nat → σ → Prop} {A : pz_A → Prop} (h : ∀ i s, i < n → I i s → (∃ s', I (i + 1) s' ∧ F i s = F (i + 1) s') ∨ A (F i s)) : ∀ (k i : Nat) (s : σ), i + k = n → I i s → (∃ s', I n s' ∧ F i s = F n s') ∨ A (F i s)
  | 0, i, s, hk, hi => by
    have : i = n := by omega
    subst this
    exact .inl ⟨s, hi, rfl⟩
  | k + 1, i, s, hk, hi => by
    rcases h i s (by omega) hi with ⟨s1, h1, e1⟩ | h1
    · rw [e1]
      exact lq h k (i + 1) s1 (by omega) h1
    · exact .inr h1
theorem lq0 {σ : Type} (n : Nat) {F : Nat → σ → pz_A} (I : Nat → σ → Prop) (A : pz_A → Prop) {s : σ} (h0 : I 0 s) (h : ∀ i s, i < n → I i s → (∃ s', I (i + 1) s' ∧ F i s = F (i + 1) s') ∨ A (F i s)) : (∃ s', I n s' ∧ F 0 s = F n s') ∨ A (F 0 s) := lq h n 0 s (by omega) h0
