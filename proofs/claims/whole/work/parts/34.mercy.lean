/-! QUESTIONS OF THE CLASS: mercy -/
theorem mo_w {L : Option ((Nat → Int) → Int)} {R R' : Nat → Int} {c a g d : Nat} (h1 : ∀ w, w < 7 → R' (7 + 7 * c + w) = R (7 + 7 * c + w)) (h2 : ∀ w, w < 3 → R' (63 + 3 * a + w) = R (63 + 3 * a + w)) (h5 : R' 5 = R 5) (h6 : R' 6 = R 6) (hd : d < 4) : mo L R' c a g d = mo L R c a g d := by
  have e1 := h1 d (by omega)
  have e2 := h2 1 (by omega)
  have e4 := h1 4 (by omega)
  have e6 := h1 5 (by omega)
  have e7 := h2 2 (by omega)
  have e8 : lts R' c a d g = lts R c a d g := by
    funext j
    unfold lts
    rw [e1, e2, h5, e4, h6, e6]
  have e9 : hab R' c a d g = hab R c a d g := by
    unfold hab
    rw [e1, e2, h5, e4]
  have e10 : wor L R' c a d g = wor L R c a d g := by
    unfold wor
    cases L with
    | none => exact e9
    | some f => show f _ = f _; rw [e8]
  unfold mo
  rw [e7, e10]
theorem OO_w {L : Option ((Nat → Int) → Int)} {R R' : Nat → Int} {c a g : Nat} (h1 : ∀ w, w < 7 → R' (7 + 7 * c + w) = R (7 + 7 * c + w)) (h2 : ∀ w, w < 3 → R' (63 + 3 * a + w) = R (63 + 3 * a + w)) (h5 : R' 5 = R 5) (h6 : R' 6 = R 6) : LL L R' a g c = LL L R a g c ∧ ∀ d, d < 4 → OO L R' a g c d = OO L R a g c d := by
  have h4 : ∀ d, d < 4 → mo L R' c a g d = mo L R c a g d := fun d hd => mo_w h1 h2 h5 h6 hd
  exact ⟨lst_c 4 h4, fun d hd => od_c h4 hd⟩
/-- the p-th cat of a set -/
def ktn (s p : Nat) : Nat → Nat
  | 0 => 0
  | n + 1 => if s.testBit n = true ∧ cb s n = p then n else ktn s p n
theorem ktn_eq {s c : Nat} (hb : s.testBit c = true) : ∀ n, c < n → ktn s (cb s c) n = c
  | 0, h => absurd h (by omega)
  | n + 1, h => by
    unfold ktn
    by_cases e : n = c
    · subst e
      rw [if_pos ⟨hb, rfl⟩]
    · have hm := cb_mono s (c + 1) (n - (c + 1))
      rw [show c + 1 + (n - (c + 1)) = n by omega] at hm
      have hs : cb s (c + 1) = cb s c + 1 := by rw [cb, if_pos hb]
      rw [if_neg (fun h => by omega)]
      exact ktn_eq hb n (by omega)
def kt (s p : Nat) : Nat := ktn s p 8
theorem kt_eq {s c : Nat} (hb : s.testBit c = true) (hc : c < 8) : kt s (cb s c) = c := ktn_eq hb 8 hc
/-- the fish more for the p-th of n cats, by a code -/
def tr (t n p : Nat) : Nat := t / 2 ^ (2 * (n - 1 - p)) % 4
theorem tr_r (t n p : Nat) : tr t n p < 4 := Nat.mod_lt _ (by decide)
def tset (t n : Nat) : Nat → Nat
  | 0 => 0
  | p + 1 => tset t n p + 2 ^ (4 * p + tr t n p)
theorem tset_lt (t n : Nat) : ∀ p, tset t n p < 2 ^ (4 * p)
  | 0 => (by decide : 0 < 2 ^ (4 * 0))
  | p + 1 => by
    have h := tset_lt t n p
    have h1 := tr_r t n p
    have h2 : 2 ^ (4 * p + tr t n p) ≤ 2 ^ (4 * p + 3) := Nat.pow_le_pow_right (by decide) (by omega)
    have h3 : 2 ^ (4 * (p + 1)) = 2 ^ (4 * p + 3) + 2 ^ (4 * p + 3) := by rw [show 4 * (p + 1) = 4 * p + 3 + 1 by omega, Nat.pow_succ]; omega
    have h4 : 2 ^ (4 * p) ≤ 2 ^ (4 * p + 3) := Nat.pow_le_pow_right (by decide) (by omega)
    show tset t n p + 2 ^ (4 * p + tr t n p) < _
    omega
theorem tset_tb (t n : Nat) : ∀ p i, (tset t n p).testBit i = (decide (i < 4 * p) && decide (i % 4 = tr t n (i / 4)))
  | 0, i => by
    show (0 : Nat).testBit i = _
    rw [Nat.zero_testBit, decide_eq_false (by omega)]
    rfl
  | p + 1, i => by
    have h := tset_tb t n p i
    have h1 := tr_r t n p
    have h2 : 2 ^ (4 * p) ≤ 2 ^ (4 * p + tr t n p) := Nat.pow_le_pow_right (by decide) (by omega)
    have h3 := tset_lt t n p
    show (tset t n p + 2 ^ (4 * p + tr t n p)).testBit i = _
    rw [tb_add (by omega), h]
    by_cases e : i = 4 * p + tr t n p
    · rw [if_pos e, decide_eq_true (show i < 4 * (p + 1) by omega), show i / 4 = p by omega, decide_eq_true (show i % 4 = tr t n p by omega)]
      rfl
    · rw [if_neg e]
      by_cases h4 : i < 4 * p
      · rw [decide_eq_true h4, decide_eq_true (show i < 4 * (p + 1) by omega)]
      · rw [decide_eq_false h4]
        by_cases h5 : i < 4 * (p + 1)
        · rw [show i / 4 = p by omega, decide_eq_false (show ¬ i % 4 = tr t n p by omega), Bool.and_false, Bool.and_false]
        · rw [decide_eq_false h5]
def fsh (t n : Nat) : Nat → Nat
  | 0 => 0
  | p + 1 => fsh t n p + tr t n p
def rwf (t n : Nat) : Nat → Nat
  | 0 => 0
  | p + 1 => rwf t n p * 10 + tr t n p
theorem fsh_r (t n : Nat) : ∀ p, fsh t n p ≤ 3 * p
  | 0 => Nat.le_refl 0
  | p + 1 => by
    have h := fsh_r t n p
    have h1 := tr_r t n p
    unfold fsh
    omega
theorem rwf_r (t n : Nat) : ∀ p, p ≤ 4 → rwf t n p ≤ 3333
  | 0, _ => (by decide : 0 ≤ 3333)
  | 1, _ => by have := tr_r t n 0; unfold rwf rwf; omega
  | 2, _ => by have := tr_r t n 0; have := tr_r t n 1; unfold rwf rwf rwf; omega
  | 3, _ => by have := tr_r t n 0; have := tr_r t n 1; have := tr_r t n 2; unfold rwf rwf rwf rwf; omega
  | 4, _ => by have := tr_r t n 0; have := tr_r t n 1; have := tr_r t n 2; have := tr_r t n 3; unfold rwf rwf rwf rwf rwf; omega
/-- a row with more fish, by a code -/
def faR (R : Nat → Int) (s t : Nat) : Nat → Int := fun j => if (7 ≤ j ∧ j < 63 ∧ j % 7 = 4) ∧ s.testBit ((j - 7) / 7) = true then R j + (tr t (cb s 8) (cb s ((j - 7) / 7)) : Int) else R j
/-- odds of the places of a mercy -/
def mO (L : Option ((Nat → Int) → Int)) (R : Nat → Int) (a s i : Nat) : Nat → Int := OO L (upf R (7 + 7 * kt s (i / 4) + 4) (R (7 + 7 * kt s (i / 4) + 4) + ((i % 4 : Nat) : Int))) a 0 (kt s (i / 4))
def mL (L : Option ((Nat → Int) → Int)) (R : Nat → Int) (a s i : Nat) : Nat := LL L (upf R (7 + 7 * kt s (i / 4) + 4) (R (7 + 7 * kt s (i / 4) + 4) + ((i % 4 : Nat) : Int))) a 0 (kt s (i / 4))
theorem ds_4 {P : Nat → Nat} {O : Nat → Nat → Int} {l : Nat → Nat} {T n p : Nat} (e : Nat) (he : e < 4) (h : ∀ i, 4 * p ≤ i → i < 4 * p + 4 → T.testBit i = decide (i = 4 * p + e)) (hn : n = 4 * p + 4) : ds P O l T n = ex P (O (4 * p + e)) (l (4 * p + e)) (ds P O l T (4 * p)) 80 := by
  subst hn
  have b0 := h (4 * p) (by omega) (by omega)
  have b1 := h (4 * p + 1) (by omega) (by omega)
  have b2 := h (4 * p + 2) (by omega) (by omega)
  have b3 := h (4 * p + 3) (by omega) (by omega)
  show ds P O l T (4 * p + 1 + 1 + 1 + 1) = _
  simp only [ds]
  rw [show 4 * p + 1 + 1 = 4 * p + 2 by omega, show 4 * p + 2 + 1 = 4 * p + 3 by omega, b0, b1, b2, b3]
  rcases (by omega : e = 0 ∨ e = 1 ∨ e = 2 ∨ e = 3) with rfl | rfl | rfl | rfl
  · rw [decide_eq_true (show 4 * p = 4 * p + 0 by omega), decide_eq_false (show ¬ 4 * p + 1 = 4 * p + 0 by omega), decide_eq_false (show ¬ 4 * p + 2 = 4 * p + 0 by omega), decide_eq_false (show ¬ 4 * p + 3 = 4 * p + 0 by omega)]
    rfl
  · rw [decide_eq_false (show ¬ 4 * p = 4 * p + 1 by omega), decide_eq_true (show 4 * p + 1 = 4 * p + 1 by omega), decide_eq_false (show ¬ 4 * p + 2 = 4 * p + 1 by omega), decide_eq_false (show ¬ 4 * p + 3 = 4 * p + 1 by omega)]
    rfl
  · rw [decide_eq_false (show ¬ 4 * p = 4 * p + 2 by omega), decide_eq_false (show ¬ 4 * p + 1 = 4 * p + 2 by omega), decide_eq_true (show 4 * p + 2 = 4 * p + 2 by omega), decide_eq_false (show ¬ 4 * p + 3 = 4 * p + 2 by omega)]
    rfl
  · rw [decide_eq_false (show ¬ 4 * p = 4 * p + 3 by omega), decide_eq_false (show ¬ 4 * p + 1 = 4 * p + 3 by omega), decide_eq_false (show ¬ 4 * p + 2 = 4 * p + 3 by omega), decide_eq_true (show 4 * p + 3 = 4 * p + 3 by omega)]
    rfl
/-- the places of a code spread as the cats of the set do, with the fish of the code -/
theorem ds_mercy {L : Option ((Nat → Int) → Int)} {R : Nat → Int} {a s t : Nat} (ha : a < 6) : ∀ c, c ≤ 8 → ds (Pt R) (mO L R a s) (mL L R a s) (tset t (cb s 8) (cb s 8)) (4 * cb s c) = ds (Pt (faR R s t)) (OO L (faR R s t) a 0) (LL L (faR R s t) a 0) s c
  | 0, _ => rfl
  | c + 1, hc => by
    have ih := ds_mercy (L := L) (R := R) (a := a) (s := s) (t := t) ha c (by omega)
    have hP : ∀ d, d < 4 → Pt R d = Pt (faR R s t) d := fun d hd => by unfold Pt faR; rw [if_neg (by omega)]
    by_cases hb : s.testBit c = true
    · have hs : cb s (c + 1) = cb s c + 1 := by rw [cb, if_pos hb]
      have hm := cb_mono s (c + 1) (8 - (c + 1))
      rw [show c + 1 + (8 - (c + 1)) = 8 by omega] at hm
      have ht := tr_r t (cb s 8) (cb s c)
      have e1 := ds_4 (P := Pt R) (O := mO L R a s) (l := mL L R a s) (T := tset t (cb s 8) (cb s 8)) (n := 4 * cb s (c + 1)) (p := cb s c) (tr t (cb s 8) (cb s c)) ht (fun i i1 i2 => by
        rw [tset_tb, decide_eq_true (show i < 4 * cb s 8 by omega), Bool.true_and, show i / 4 = cb s c by omega]
        by_cases e : i = 4 * cb s c + tr t (cb s 8) (cb s c)
        · rw [decide_eq_true e, decide_eq_true (show i % 4 = tr t (cb s 8) (cb s c) by omega)]
        · rw [decide_eq_false e, decide_eq_false (show ¬ i % 4 = tr t (cb s 8) (cb s c) by omega)]) (by omega)
      rw [e1, ih]
      have hk := kt_eq hb (by omega : c < 8)
      have hi4 : (4 * cb s c + tr t (cb s 8) (cb s c)) / 4 = cb s c := by omega
      have hi5 : (4 * cb s c + tr t (cb s 8) (cb s c)) % 4 = tr t (cb s 8) (cb s c) := by omega
      have hrow := OO_w (L := L) (R := faR R s t) (R' := upf R (7 + 7 * c + 4) (R (7 + 7 * c + 4) + (tr t (cb s 8) (cb s c) : Int))) (c := c) (a := a) (g := 0) (fun w hw => by
          unfold upf faR
          by_cases e : w = 4
          · subst e
            rw [if_pos rfl, show (7 + 7 * c + 4 - 7) / 7 = c by omega, if_pos ⟨by omega, hb⟩]
          · rw [if_neg (by omega), if_neg (by omega)]) (fun w hw => by
          unfold upf faR
          rw [if_neg (by omega), if_neg (by omega)]) (by
          unfold upf faR
          rw [if_neg (by omega), if_neg (by omega)]) (by
          unfold upf faR
          rw [if_neg (by omega), if_neg (by omega)])
      show _ = ds (Pt (faR R s t)) (OO L (faR R s t) a 0) (LL L (faR R s t) a 0) s (c + 1)
      conv => rhs; rw [ds, if_pos hb]
      have el : mL L R a s (4 * cb s c + tr t (cb s 8) (cb s c)) = LL L (faR R s t) a 0 c := by
        unfold mL
        rw [hi4, hi5, hk]
        exact hrow.1
      have eo : ∀ d, d < 4 → mO L R a s (4 * cb s c + tr t (cb s 8) (cb s c)) d = OO L (faR R s t) a 0 c d := by
        intro d hd
        unfold mO
        rw [hi4, hi5, hk]
        exact hrow.2 d hd
      funext k
      rw [el, ex_P hP]
      exact ex_c 80 (fun _ _ => rfl) eo
    · have hs : cb s (c + 1) = cb s c := by rw [cb, if_neg hb]; rfl
      rw [hs, ih, ds, if_neg hb]
theorem ds_mercy8 {L : Option ((Nat → Int) → Int)} {R : Nat → Int} {a s t : Nat} (ha : a < 6) (hs : s < 256) (h4 : cb s 8 ≤ 4) : ds (Pt R) (mO L R a s) (mL L R a s) (tset t (cb s 8) (cb s 8)) 16 = ds (Pt (faR R s t)) (OO L (faR R s t) a 0) (LL L (faR R s t) a 0) s 16 := by
  have h := ds_mercy (L := L) (R := R) (a := a) (s := s) (t := t) ha 8 (by decide)
  have e1 := ds_e (P := Pt R) (O := mO L R a s) (l := mL L R a s) (s := tset t (cb s 8) (cb s 8)) (n := 4 * cb s 8) (16 - 4 * cb s 8) (fun i i1 i2 => by rw [tset_tb, decide_eq_false (by omega)]; rfl)
  rw [show 4 * cb s 8 + (16 - 4 * cb s 8) = 16 by omega] at e1
  have e2 := ds_e (P := Pt (faR R s t)) (O := OO L (faR R s t) a 0) (l := LL L (faR R s t) a 0) (s := s) (n := 8) 8 (fun i i1 i2 => lt_256 hs i1)
  rw [e1, h]
  exact e2.symm
theorem cb_tset {t n : Nat} : ∀ p, cb (tset t n n) (4 * p) ≤ p
  | 0 => Nat.le_refl 0
  | p + 1 => by
    have h := cb_tset (t := t) (n := n) p
    rw [show 4 * (p + 1) = 4 * p + 1 + 1 + 1 + 1 by omega]
    simp only [cb]
    rw [tset_tb, tset_tb, tset_tb, tset_tb]
    rw [show (4 * p + 1 + 1 + 1) / 4 = p by omega, show (4 * p + 1 + 1) / 4 = p by omega, show (4 * p + 1) / 4 = p by omega, show (4 * p) / 4 = p by omega]
    rw [show (4 * p + 1 + 1 + 1) % 4 = 3 by omega, show (4 * p + 1 + 1) % 4 = 2 by omega, show (4 * p + 1) % 4 = 1 by omega, show (4 * p) % 4 = 0 by omega]
    have ht := tr_r t n p
    rcases (by omega : tr t n p = 0 ∨ tr t n p = 1 ∨ tr t n p = 2 ∨ tr t n p = 3) with e | e | e | e <;> rw [e] <;> simp only [Nat.reduceEqDiff, decide_false, Bool.and_false, Bool.false_eq_true, if_false, decide_true, Bool.and_true] <;> split <;> omega
def mcv (L : Option ((Nat → Int) → Int)) (R : Nat → Int) (a s : Nat) (b : Int) : Nat → Int × Int
  | 0 => (-1, -1)
  | t + 1 => if ((mcv L R a s b t).1 = -1 ∨ (fsh t (cb s 8) (cb s 8) : Int) < (mcv L R a s b t).1) ∧ hd L (faR R s t) a 0 s (nd R) ≤ 10000000 * b then ((fsh t (cb s 8) (cb s 8) : Int), (rwf t (cb s 8) (cb s 8) : Int)) else mcv L R a s b t
def aMercy (L : Option ((Nat → Int) → Int)) (R : Nat → Int) (s a b w : Int) : Int := if (StP R s ∧ AcP R a) ∧ (0 ≤ b ∧ b ≤ 100) ∧ BiP w ∧ cb s.toNat 8 ≤ 4 then wht (mcv L R a.toNat s.toNat b (2 ^ (2 * cb s.toNat 8))) w else -1
