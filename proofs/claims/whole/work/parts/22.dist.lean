/-! PARTS BY POINTS: how one cat's odds spread them -/
/-- a sum of a row: k places from n on -/
def su (f : Nat → Int) (n : Nat) : Nat → Int
  | 0 => 0
  | k + 1 => su f n k + f (n + k)
theorem su_add (f g : Nat → Int) (n : Nat) : ∀ k, su (fun i => f i + g i) n k = su f n k + su g n k
  | 0 => rfl
  | k + 1 => by
    have := su_add f g n k
    simp only [su]
    omega
theorem su_0 {f : Nat → Int} {n : Nat} : ∀ k, (∀ i, n ≤ i → i < n + k → f i = 0) → su f n k = 0
  | 0, _ => rfl
  | k + 1, h => by
    have h1 := su_0 k (fun i a b => h i a (by omega))
    have h2 := h (n + k) (by omega) (by omega)
    simp only [su]
    omega
theorem su_eq {f g : Nat → Int} {n : Nat} : ∀ k, (∀ i, n ≤ i → i < n + k → f i = g i) → su f n k = su g n k
  | 0, _ => rfl
  | k + 1, h => by
    have h1 := su_eq k (fun i a b => h i a (by omega))
    have h2 := h (n + k) (by omega) (by omega)
    simp only [su]
    omega
theorem su_n {f : Nat → Int} (h : ∀ i, 0 ≤ f i) (n : Nat) : ∀ k, 0 ≤ su f n k
  | 0 => Int.le_refl 0
  | k + 1 => by
    have h1 := su_n h n k
    have h2 := h (n + k)
    simp only [su]
    omega
theorem su_cat (f : Nat → Int) (n m : Nat) : ∀ k, su f n (m + k) = su f n m + su f (n + m) k
  | 0 => by simp only [su, Nat.add_zero, Int.add_zero]
  | k + 1 => by
    have h := su_cat f n m k
    show su f n (m + k) + f (n + (m + k)) = su f n m + (su f (n + m) k + f (n + m + k))
    rw [show n + (m + k) = n + m + k by omega]
    omega
/-- a part of the whole is no more than it -/
theorem su_le {f : Nat → Int} (h : ∀ i, 0 ≤ f i) {n k N : Nat} (hk : n + k ≤ N) : su f n k ≤ su f 0 N := by
  have e : N = n + (k + (N - n - k)) := by omega
  rw [e, su_cat, su_cat, Nat.zero_add]
  have := su_n h 0 n
  have := su_n h (n + k) (N - n - k)
  omega
theorem su_one (j : Nat) (v : Int) : ∀ n, su (fun k => if j = k then v else 0) 0 n = if j < n then v else 0
  | 0 => by rw [if_neg (by omega)]; rfl
  | n + 1 => by
    have h := su_one j v n
    simp only [su, Nat.zero_add]
    rw [h]
    by_cases h1 : j < n
    · rw [if_pos h1, if_neg (by omega), if_pos (by omega)]; omega
    · by_cases h2 : j = n
      · rw [if_neg h1, if_pos h2, if_pos (by omega)]; omega
      · rw [if_neg h1, if_neg h2, if_neg (by omega)]; omega
/-- odds o, the last of which is at l -/
def Od (o : Nat → Int) (l : Nat) : Prop := (∀ d, d < 4 → 0 ≤ o d ∧ o d ≤ 1000000000) ∧ o 0 + o 1 + o 2 + o 3 = 1000000000 ∧ l ≤ 3 ∧ (∀ d, d < 4 → l < d → o d = 0)
theorem Od_od {m : Nat → Int} (h : Mo4 m) : Od (od m) (lst m 4) := ⟨fun _ hd => od_r h hd, od_s, lst_r m 4 (by decide), fun _ hd hl => od_a h hd hl⟩
def qt (p : Int) (o : Nat → Int) (d : Nat) : Int := p * o d / 1000000000
def pt (p : Int) (o : Nat → Int) (l d : Nat) : Int := if d = l then p - (sm (qt p o) 4 - qt p o l) else qt p o d
theorem qt_n {p : Int} {o : Nat → Int} {l d : Nat} (hp : 0 ≤ p) (h : Od o l) (hd : d < 4) : 0 ≤ qt p o d := by
  unfold qt
  have := Int.mul_nonneg hp (h.1 d hd).1
  omega
theorem qt_s {p : Int} {o : Nat → Int} {l : Nat} (hp : 0 ≤ p) (h : Od o l) : sm (qt p o) 4 ≤ p := by
  have e : p * o 0 + p * o 1 + p * o 2 + p * o 3 = p * 1000000000 := by rw [← h.2.1, Int.mul_add, Int.mul_add, Int.mul_add]
  rw [sm4]
  unfold qt
  generalize p * o 0 = x0 at *
  generalize p * o 1 = x1 at *
  generalize p * o 2 = x2 at *
  generalize p * o 3 = x3 at *
  omega
theorem pt_n {p : Int} {o : Nat → Int} {l d : Nat} (hp : 0 ≤ p) (h : Od o l) (hd : d < 4) : 0 ≤ pt p o l d := by
  have := qt_s hp h
  have := qt_n hp h hd
  unfold pt
  split
  · next e => subst e; omega
  · assumption
theorem pt_s {p : Int} {o : Nat → Int} {l : Nat} (h : Od o l) : pt p o l 0 + pt p o l 1 + pt p o l 2 + pt p o l 3 = p := by
  have e := sm4 (qt p o)
  have hl := h.2.2.1
  unfold pt
  rcases (by omega : l = 0 ∨ l = 1 ∨ l = 2 ∨ l = 3) with h | h | h | h <;> rw [h] <;> simp only [Nat.reduceEqDiff, if_true, if_false] <;> omega
theorem qt_z {p : Int} {o : Nat → Int} {l d : Nat} (h : Od o l) (hd : d < 4) (hl : l < d) : qt p o d = 0 := by
  unfold qt
  rw [h.2.2.2 d hd hl, Int.mul_zero]
  rfl
theorem pt_z {p : Int} {o : Nat → Int} {l d : Nat} (h : Od o l) (hd : d < 4) (hl : l < d) : pt p o l d = 0 := by
  unfold pt
  rw [if_neg (by omega)]
  exact qt_z h hd hl
theorem qt_0 {o : Nat → Int} {d : Nat} : qt 0 o d = 0 := by
  unfold qt
  rw [Int.zero_mul]
  rfl
theorem pt_0 {o : Nat → Int} {l d : Nat} : pt 0 o l d = 0 := by
  unfold pt
  rw [sm4, qt_0, qt_0, qt_0, qt_0, qt_0, qt_0]
  split <;> rfl
/-- what comes to the place k from the place i -/
def cn (P : Nat → Nat) (i : Nat) (pp : Nat → Int) : Nat → Nat → Int
  | 0, _ => 0
  | n + 1, k => cn P i pp n k + if i + P n = k then pp n else 0
def ex (P : Nat → Nat) (o : Nat → Int) (l : Nat) (p : Nat → Int) : Nat → Nat → Int
  | 0, _ => 0
  | n + 1, k => ex P o l p n k + cn P n (pt (p n) o l) 4 k
theorem cn_n {P : Nat → Nat} {i : Nat} {pp : Nat → Int} : ∀ n, (∀ d, d < n → 0 ≤ pp d) → ∀ k, 0 ≤ cn P i pp n k
  | 0, _, _ => Int.le_refl 0
  | n + 1, h, k => by
    have h1 := cn_n (P := P) (i := i) n (fun d hd => h d (by omega)) k
    have h2 := h n (by omega)
    unfold cn
    split <;> omega
theorem cn_z {P : Nat → Nat} {i : Nat} {pp : Nat → Int} : ∀ n, (∀ d, d < n → pp d = 0) → ∀ k, cn P i pp n k = 0
  | 0, _, _ => rfl
  | n + 1, h, k => by
    have h1 := cn_z (P := P) (i := i) n (fun d hd => h d (by omega)) k
    have h2 := h n (by omega)
    unfold cn
    split <;> omega
theorem cn_f {P : Nat → Nat} {i : Nat} {pp : Nat → Int} (hP : ∀ d, d < 4 → P d ≤ 9) : ∀ n, n ≤ 4 → ∀ k, i + 9 < k → cn P i pp n k = 0
  | 0, _, _, _ => rfl
  | n + 1, hn, k, hk => by
    have h1 := cn_f (pp := pp) hP n (by omega) k hk
    have h2 := hP n (by omega)
    unfold cn
    rw [if_neg (by omega)]
    omega
theorem cn_su {P : Nat → Nat} {i : Nat} {pp : Nat → Int} (hP : ∀ d, d < 4 → P d ≤ 9) (hi : i + 9 < 80) : ∀ n, n ≤ 4 → su (cn P i pp n) 0 80 = sm pp n
  | 0, _ => su_0 80 (fun _ _ _ => rfl)
  | n + 1, hn => by
    have h1 := cn_su (pp := pp) hP hi n (by omega)
    have h2 := hP n (by omega)
    have e : cn P i pp (n + 1) = fun k => cn P i pp n k + if i + P n = k then pp n else 0 := by funext k; rfl
    rw [e, su_add, h1, su_one, if_pos (by omega)]
    rfl
theorem ex_n {P : Nat → Nat} {o : Nat → Int} {l : Nat} {p : Nat → Int} (h : Od o l) : ∀ n, (∀ i, i < n → 0 ≤ p i) → ∀ k, 0 ≤ ex P o l p n k
  | 0, _, _ => Int.le_refl 0
  | n + 1, hp, k => by
    have h1 := ex_n (P := P) h n (fun i hi => hp i (by omega)) k
    have h2 := cn_n (P := P) (i := n) (pp := pt (p n) o l) 4 (fun d hd => pt_n (hp n (by omega)) h hd) k
    unfold ex
    omega
theorem ex_f {P : Nat → Nat} {o : Nat → Int} {l : Nat} {p : Nat → Int} (hP : ∀ d, d < 4 → P d ≤ 9) {m : Nat} (hp : ∀ i, m < i → p i = 0) : ∀ n k, m + 9 < k → ex P o l p n k = 0
  | 0, _, _ => rfl
  | n + 1, k, hk => by
    have h1 := ex_f (o := o) (l := l) hP hp n k hk
    unfold ex
    by_cases hn : m < n
    · rw [h1, hp n hn, cn_z 4 (fun d _ => pt_0)]; rfl
    · rw [h1, cn_f hP 4 (by decide) k (by omega)]; rfl
theorem ex_su {P : Nat → Nat} {o : Nat → Int} {l : Nat} {p : Nat → Int} (hP : ∀ d, d < 4 → P d ≤ 9) (h : Od o l) {m : Nat} (hm : m + 9 < 80) (hp : ∀ i, m < i → p i = 0) : ∀ n, su (ex P o l p n) 0 80 = su p 0 n
  | 0 => su_0 80 (fun _ _ _ => rfl)
  | n + 1 => by
    have h1 := ex_su hP h hm hp n
    have e : ex P o l p (n + 1) = fun k => ex P o l p n k + cn P n (pt (p n) o l) 4 k := by funext k; rfl
    rw [e, su_add, h1]
    show _ = su p 0 n + p (0 + n)
    rw [Nat.zero_add]
    by_cases hn : m < n
    · rw [su_0 80 (fun k _ _ => cn_z 4 (fun d _ => by rw [hp n hn]; exact pt_0) k), hp n hn]
    · rw [cn_su hP (by omega) 4 (by decide), sm4, pt_s h]
/-- beyond the row there is nothing -/
theorem ex_e {P : Nat → Nat} {o : Nat → Int} {l : Nat} {p : Nat → Int} {k n : Nat} : ∀ j, (∀ i, n ≤ i → p i = 0) → ex P o l p (n + j) k = ex P o l p n k
  | 0, _ => rfl
  | j + 1, h => by
    have h1 := ex_e (P := P) (o := o) (l := l) (k := k) j h
    show ex P o l p (n + j) k + cn P (n + j) (pt (p (n + j)) o l) 4 k = _
    rw [h1, h (n + j) (by omega), cn_z 4 (fun d _ => pt_0)]
    omega
theorem ex_c {P : Nat → Nat} {o o' : Nat → Int} {l : Nat} {p p' : Nat → Int} {k : Nat} : ∀ n, (∀ i, i < n → p i = p' i) → (∀ d, d < 4 → o d = o' d) → ex P o l p n k = ex P o' l p' n k
  | 0, _, _ => rfl
  | n + 1, h, ho => by
    have h1 := ex_c (P := P) (l := l) (k := k) n (fun i hi => h i (by omega)) ho
    have q0 : ∀ d, d < 4 → qt (p' n) o d = qt (p' n) o' d := fun d hd => by unfold qt; rw [ho d hd]
    have hc : ∀ m, m ≤ 4 → cn P n (pt (p' n) o l) m k = cn P n (pt (p' n) o' l) m k := by
      intro m
      induction m with
      | zero => intro _; rfl
      | succ m ih =>
        intro hm
        have e : pt (p' n) o l m = pt (p' n) o' l m := by
          unfold pt
          rw [sm4, sm4, q0 0 (by decide), q0 1 (by decide), q0 2 (by decide), q0 3 (by decide), q0 m (by omega)]
          split
          · next e => subst e; rw [q0 m (by omega)]
          · rfl
        unfold cn
        rw [ih (by omega), e]
    unfold ex
    rw [h1, h n (by omega), hc 4 (by decide)]
/-! sets of cats, or of places -/
def cb (s : Nat) : Nat → Nat
  | 0 => 0
  | n + 1 => cb s n + if s.testBit n then 1 else 0
theorem cb_le (s : Nat) : ∀ n, cb s n ≤ n
  | 0 => Nat.le_refl 0
  | n + 1 => by
    have := cb_le s n
    unfold cb
    split <;> omega
theorem cb_mono (s n : Nat) : ∀ k, cb s n ≤ cb s (n + k)
  | 0 => Nat.le_refl _
  | k + 1 => by
    have := cb_mono s n k
    show _ ≤ cb s (n + k) + _
    omega
def ds0 (k : Nat) : Int := if k = 0 then 1000000000 else 0
def ds (P : Nat → Nat) (O : Nat → Nat → Int) (l : Nat → Nat) (s : Nat) : Nat → Nat → Int
  | 0 => ds0
  | n + 1 => if s.testBit n then ex P (O n) (l n) (ds P O l s n) 80 else ds P O l s n
theorem ds_ok {P : Nat → Nat} {O : Nat → Nat → Int} {l : Nat → Nat} {s : Nat} (hP : ∀ d, d < 4 → P d ≤ 9) : ∀ n, (∀ i, i < n → s.testBit i = true → Od (O i) (l i)) → cb s n ≤ 8 → (∀ k, 0 ≤ ds P O l s n k) ∧ (∀ k, 9 * cb s n < k → ds P O l s n k = 0) ∧ su (ds P O l s n) 0 80 = 1000000000
  | 0, _, _ => ⟨fun k => by unfold ds ds0; split <;> decide, fun k hk => by unfold ds ds0; rw [if_neg (by omega)], (by decide : su ds0 0 80 = 1000000000)⟩
  | n + 1, hO, hc => by
    have hm := cb_mono s n 1
    obtain ⟨h1, h2, h3⟩ := ds_ok (P := P) (O := O) (l := l) hP n (fun i hi => hO i (by omega)) (by omega)
    unfold ds
    by_cases hb : s.testBit n = true
    · rw [if_pos hb]
      have e : cb s (n + 1) = cb s n + 1 := by rw [cb, if_pos hb]
      have ho := hO n (by omega) hb
      refine ⟨ex_n ho 80 (fun i _ => h1 i), ?_, ?_⟩
      · intro k hk
        exact ex_f hP h2 80 k (by omega)
      · rw [ex_su hP ho (by omega) h2, h3]
    · rw [if_neg hb]
      have e : cb s (n + 1) = cb s n := by rw [cb, if_neg hb]; rfl
      rw [e]
      exact ⟨h1, h2, h3⟩
theorem ds_c {P : Nat → Nat} {O O' : Nat → Nat → Int} {l l' : Nat → Nat} {s s' : Nat} : ∀ n, (∀ i, i < n → s.testBit i = s'.testBit i ∧ (s.testBit i = true → l i = l' i ∧ ∀ d, d < 4 → O i d = O' i d)) → ds P O l s n = ds P O' l' s' n
  | 0, _ => rfl
  | n + 1, h => by
    have h1 := ds_c (P := P) n (fun i hi => h i (by omega))
    have h2 := h n (by omega)
    unfold ds
    rw [← h2.1, h1]
    by_cases hb : s.testBit n = true
    · rw [if_pos hb, if_pos hb, (h2.2 hb).1]
      funext k
      exact ex_c 80 (fun _ _ => rfl) (h2.2 hb).2
    · rw [if_neg hb, if_neg hb]
theorem ds_e {P : Nat → Nat} {O : Nat → Nat → Int} {l : Nat → Nat} {s n : Nat} : ∀ k, (∀ i, n ≤ i → i < n + k → s.testBit i = false) → ds P O l s (n + k) = ds P O l s n
  | 0, _ => rfl
  | k + 1, h => by
    have h1 := ds_e (P := P) (O := O) (l := l) k (fun i a b => h i a (by omega))
    show (if s.testBit (n + k) then _ else ds P O l s (n + k)) = _
    rw [if_neg (by rw [h (n + k) (by omega) (by omega)]; decide), h1]
theorem cb_e {s n : Nat} : ∀ k, (∀ i, n ≤ i → i < n + k → s.testBit i = false) → cb s (n + k) = cb s n
  | 0, _ => rfl
  | k + 1, h => by
    have h1 := cb_e k (fun i a b => h i a (by omega))
    show cb s (n + k) + (if s.testBit (n + k) then 1 else 0) = _
    rw [if_neg (by rw [h (n + k) (by omega) (by omega)]; decide), h1]
    rfl
theorem cb_c {s s' : Nat} : ∀ n, (∀ i, i < n → s.testBit i = s'.testBit i) → cb s n = cb s' n
  | 0, _ => rfl
  | n + 1, h => by
    have h1 := cb_c n (fun i hi => h i (by omega))
    unfold cb
    rw [h1, h n (by omega)]
theorem tb_mod {s n i : Nat} : (s % 2 ^ n).testBit i = (decide (i < n) && s.testBit i) := Nat.testBit_mod_two_pow s n i
theorem md_s (s n : Nat) : s % 2 ^ (n + 1) = s % 2 ^ n + if s.testBit n then 2 ^ n else 0 := by
  rw [Nat.pow_succ, Nat.mod_mul, Nat.testBit_eq_decide_div_mod_eq]
  by_cases h : s / 2 ^ n % 2 = 1
  · rw [h, if_pos (by simp), Nat.mul_one]
  · rw [if_neg (by simpa using h), show s / 2 ^ n % 2 = 0 by omega, Nat.mul_zero]
theorem ds_m {P : Nat → Nat} {O : Nat → Nat → Int} {l : Nat → Nat} {s n N : Nat} (h : n ≤ N) : ds P O l (s % 2 ^ n) N = ds P O l s n := by
  obtain ⟨k, rfl⟩ := Nat.le.dest h
  rw [ds_e k (fun i a b => by rw [tb_mod, decide_eq_false (by omega)]; rfl)]
  exact ds_c n (fun i hi => ⟨by rw [tb_mod, decide_eq_true hi]; rfl, fun _ => ⟨rfl, fun _ _ => rfl⟩⟩)
theorem cb_m {s n N : Nat} (h : n ≤ N) : cb (s % 2 ^ n) N = cb s n := by
  obtain ⟨k, rfl⟩ := Nat.le.dest h
  rw [cb_e k (fun i a b => by rw [tb_mod, decide_eq_false (by omega)]; rfl)]
  exact cb_c n (fun i hi => by rw [tb_mod, decide_eq_true hi]; rfl)
theorem md_0 {s n : Nat} (h : cb s n ≠ 0) : s % 2 ^ n ≠ 0 := by
  intro e
  have h2 := cb_m (s := s) (n := n) (N := n) (Nat.le_refl n)
  rw [e] at h2
  have : ∀ m, cb 0 m = 0 := by
    intro m
    induction m with
    | zero => rfl
    | succ m ih => unfold cb; rw [ih, Nat.zero_testBit]; rfl
  rw [this] at h2
  omega
/-- a bit as the machine asks for it -/
theorem pn_bit {s k : Nat} (hs : s < 2147483648) (hk : k < 32) : pz_and (pz_shr (s : Int) (k : Int)) 1 = if s.testBit k then 1 else 0 := by
  rw [pn_and1, pn_shr (by omega) (by omega) (by omega) (by omega), Int.toNat_natCast, Nat.testBit_eq_decide_div_mod_eq, ← pn_2p]
  by_cases h : s / 2 ^ k % 2 = 1
  · rw [if_pos (by simpa using h)]
    omega
  · rw [if_neg (by simpa using h)]
    omega
