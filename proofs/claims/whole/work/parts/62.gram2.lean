/-! THE GRAMMAR OF A LAW: what it reads is no longer than the tape, no higher than the stack -/
/-- a good result, read from p0 on -/
def Gr (n p0 : Nat) (h : Nat) (q : Prop) (r : Rs Ex) : Prop := match r with
  | .inl z => z.2 ≤ n ∧ p0 + z.1.1.length ≤ z.2 ∧ Xg z.1 h q
  | .inr w => w ≤ n
section P62
variable {T : Nat → Int} {n : Nat}
theorem Xg_m {e : Ex} {h h' : Nat} {q q' : Prop} (x : Xg e h q) (hh : h ≤ h') (hq : q' → q) : Xg e h' q' := ⟨Nat.le_trans x.1 hh, x.2.1, x.2.2.1, fun g => x.2.2.2 (hq g)⟩
theorem Gr_m {p0 p1 h h' : Nat} {q q' : Prop} {r : Rs Ex} (x : Gr n p0 h q r) (hp : p1 ≤ p0) (hh : h ≤ h') (hq : q' → q) : Gr n p1 h' q' r := by
  match r, x with
  | .inl z, x => exact ⟨x.1, by have := x.2.1; omega, Xg_m x.2.2 hh hq⟩
  | .inr w, x => exact x
theorem Gr_chn {op : Int → Int} {g : Nat → Rs Ex} {h0 h : Nat} {q0 q : Prop} (hg : ∀ p, p ≤ n → Gr n p h0 q0 (g p)) (ho : op (-1) = 0) (hh : h0 + 1 ≤ h) (hq : q → ∀ c, op c ≠ 0 → 6 ≤ op c) : ∀ f e p p0, p ≤ n → p0 + e.1.length ≤ p → Xg e h q → Gr n p0 h q (chn T n op g f e p) := by
  intro f
  induction f with
  | zero =>
    intro e p p0 hp hl hx
    exact ⟨bl_le hp, Nat.le_trans hl bl_ge, hx⟩
  | succ f ih =>
    intro e p p0 hp hl hx
    have b1 := bl_le (T := T) hp
    have b2 := bl_ge (T := T) (n := n) (p := p)
    unfold chn
    by_cases c : op (ch T n (bl T n p)) = 0
    · rw [if_pos c]
      exact ⟨b1, Nat.le_trans hl b2, hx⟩
    · rw [if_neg c]
      have b3 : bl T n p < n := ch_lt (T := T) rfl (fun h => c (by rw [h]; exact ho))
      have g1 := hg (bl T n p + 1) (by omega)
      match hz : g (bl T n p + 1), g1 with
      | .inl z, g1 =>
        refine ih _ z.2 p0 g1.1 ?_ (Xg_bin hx g1.2.2 (Nat.le_refl _) hh (fun a => hq a _ c))
        rw [xbin_len]
        have := g1.2.1
        omega
      | .inr w, g1 => exact g1
theorem Gr_sq1 {op : Int → Int} {g : Nat → Rs Ex} {h0 h : Nat} {q0 q : Prop} (hg : ∀ p, p ≤ n → Gr n p h0 q0 (g p)) (ho : op (-1) = 0) (hh : h0 + 1 ≤ h) (hq : q → ∀ c, op c ≠ 0 → 6 ≤ op c) (hq0 : q → q0) : ∀ p, p ≤ n → Gr n p h q (sq1 T n op g p) := by
  intro p hp
  unfold sq1
  have g1 := hg p hp
  match hz : g p, g1 with
  | .inl z, g1 => exact Gr_chn hg ho hh hq 240 z.1 z.2 p g1.1 g1.2.1 (Xg_m g1.2.2 (by omega) hq0)
  | .inr w, g1 => exact g1
theorem Gr_flt {p h : Nat} {q : Prop} (hp : p ≤ n) : Gr n p h q (flt T n p) := bl_le hp
theorem Gr_inb {s : Nat → Rs Ex} {h : Nat} {q : Prop} {c : Int} {p : Nat} (hg : ∀ p, p ≤ n → Gr n p h q (s p)) (hc : c ≠ -1) (hp : p ≤ n) : Gr n p h q (inb T n s c p) := by
  unfold inb
  have g1 := hg p hp
  match hz : s p, g1 with
  | .inl z, g1 =>
    show Gr n p h q (if ch T n (bl T n z.2) = c then _ else _)
    have b1 := bl_le (T := T) g1.1
    have b2 := bl_ge (T := T) (n := n) (p := z.2)
    by_cases e : ch T n (bl T n z.2) = c
    · rw [if_pos e]
      have b3 : bl T n z.2 < n := ch_lt e hc
      exact ⟨b3, by have := g1.2.1; show p + z.1.1.length ≤ bl T n z.2 + 1; omega, g1.2.2⟩
    · rw [if_neg e]; exact b1
  | .inr w, g1 => exact g1
theorem ltr_r (c : Int) : ltr c = -1 ∨ 0 ≤ ltr c ∧ ltr c < 8 := by
  unfold ltr
  repeat' split
  all_goals omega
theorem numb_r {D p : Nat} {most : Int} (hp : p ≤ n) (hD : D ≤ 4) : match numb T n D most p with
    | .inl z => z.2 ≤ n ∧ p + 1 ≤ z.2 ∧ 0 ≤ z.1 ∧ z.1 ≤ most
    | .inr w => w ≤ n := by
  have b1 := bl_le (T := T) hp
  have b2 := bl_ge (T := T) (n := n) (p := p)
  have rr := rdn_r (T := T) D (bl T n p) 0 b1
  have rv := rdn_v (T := T) (n := n) D (bl T n p) 0 1 (by decide) (by decide)
  unfold numb
  generalize rdn T n D (bl T n p) 0 = z at *
  by_cases c1 : z.2 = bl T n p ∨ dg T n z.2 ≠ -1
  · rw [if_pos c1]; exact rr.2.1
  · rw [if_neg c1]
    by_cases c2 : most < z.1
    · rw [if_pos c2]; show z.2 - 1 ≤ n; omega
    · rw [if_neg c2]
      refine ⟨rr.2.1, ?_, rv.1, by show z.1 ≤ most; omega⟩
      have : z.2 ≠ bl T n p := fun h => c1 (.inl h)
      show p + 1 ≤ z.2
      omega
theorem Gr_atm {inn : Nat → Rs Ex} {h : Nat} (hg : ∀ p, p ≤ n → bl T n p < n → Gr n p h False (inn p)) (hh : 1 ≤ h) : ∀ p, p ≤ n → Gr n p h False (atm T n inn p) := by
  intro p hp
  have b2 := bl_ge (T := T) (n := n) (p := p)
  unfold atm
  by_cases c1 : ch T n (bl T n p) = 91
  · rw [if_pos c1]
    exact hg p hp (ch_lt c1 (by decide))
  · rw [if_neg c1]
    by_cases c2 : ltr (ch T n (bl T n p)) ≠ -1
    · rw [if_pos c2]
      have b3 : bl T n p < n := ch_lt (T := T) rfl (fun h => c2 (by rw [h]; decide))
      have lr := ltr_r (ch T n (bl T n p))
      exact ⟨b3, by show p + 1 ≤ bl T n p + 1; omega, hh, Nat.le_refl _, fun lt hl => by
        have := hl (ltr (ch T n (bl T n p))).toNat (by omega)
        show -1000000 ≤ lt (ltr (ch T n (bl T n p))).toNat ∧ lt (ltr (ch T n (bl T n p))).toNat ≤ 1000000
        omega, fun f => f.elim⟩
    · rw [if_neg c2]
      have nr := numb_r (T := T) (n := n) (D := 4) (p := p) (most := 9999) hp (by decide)
      match hz : numb T n 4 9999 p, nr with
      | .inl z, nr => exact ⟨nr.1, nr.2.1, hh, Nat.le_refl _, fun lt hl => by
          show -1000000 ≤ z.1 ∧ z.1 ≤ 1000000
          omega, fun f => f.elim⟩
      | .inr w, nr => exact nr
theorem Gr_gSm : ∀ j p, p ≤ n → Gr n p (2 * j + 3) False (gSm T n j p)
  | 0 => by
    unfold gSm gTm
    exact Gr_sq1 (h0 := 2) (Gr_sq1 (h0 := 1) (q := False) (Gr_atm (fun p hp _ => Gr_flt hp) (by decide)) (by decide) (by decide) (fun f => f.elim) (fun f => f)) (by decide) (by decide) (fun f => f.elim) (fun f => f)
  | j + 1 => by
    have ih := Gr_gSm j
    unfold gSm gTm
    refine Gr_sq1 (h0 := 2 * j + 4) (Gr_sq1 (h0 := 2 * j + 3) (q := False) (Gr_atm (fun p hp hb => ?_) (by omega)) (by decide) (by omega) (fun f => f.elim) (fun f => f)) (by decide) (by omega) (fun f => f.elim) (fun f => f)
    exact Gr_m (Gr_inb (T := T) (c := 93) (p := bl T n p + 1) ih (by decide) (by omega)) (by have := bl_ge (T := T) (n := n) (p := p); omega) (Nat.le_refl _) (fun f => f)
theorem oCm_6 {c : Int} (h : oCm c ≠ 0) : 6 ≤ oCm c := by
  unfold oCm at *
  repeat' split at *
  all_goals omega
theorem Gr_gCm {s : Nat → Rs Ex} {h : Nat} {e : Ex} {p p0 : Nat} (hg : ∀ p, p ≤ n → Gr n p h False (s p)) (hp : p ≤ n) (hl : p0 + e.1.length ≤ p) (hx : Xg e h False) : Gr n p0 (h + 1) True (gCm T n s e p) := by
  have b1 := bl_le (T := T) hp
  have b2 := bl_ge (T := T) (n := n) (p := p)
  unfold gCm
  by_cases c : oCm (ch T n (bl T n p)) = 0
  · rw [if_pos c]; exact b1
  · rw [if_neg c]
    have b3 : bl T n p < n := ch_lt (T := T) rfl (fun h => c (by rw [h]; decide))
    have g1 := hg (bl T n p + 1) (by omega)
    match hz : s (bl T n p + 1), g1 with
    | .inl z, g1 =>
      refine ⟨g1.1, ?_, Xg_bin hx g1.2.2 (by omega) (Nat.le_refl _) (fun _ => oCm_6 c)⟩
      show p0 + (xbin _ e z.1).1.length ≤ z.2
      rw [xbin_len]
      have := g1.2.1
      omega
    | .inr w, g1 => exact g1
theorem oAn_6 {c : Int} (h : oAn c ≠ 0) : 6 ≤ oAn c := by
  unfold oAn at *
  split at * <;> omega
theorem oOr_6 {c : Int} (h : oOr c ≠ 0) : 6 ≤ oOr c := by
  unfold oOr at *
  split at * <;> omega
theorem Gr_gCd {u : Nat → Rs Ex} {h : Nat} (hg : ∀ p, p ≤ n → Gr n p h True (u p)) : ∀ p, p ≤ n → Gr n p (h + 2) True (gCd T n u p) := by
  unfold gCd
  exact Gr_sq1 (h0 := h + 1) (Gr_sq1 (h0 := h) (q := True) hg (by decide) (by omega) (fun _ c hc => oAn_6 hc) (fun f => f)) (by decide) (by omega) (fun _ c hc => oOr_6 hc) (fun f => f)
theorem Gr_unt {nn pp s : Nat → Rs Ex} {h hs : Nat} (h1 : ∀ p, p ≤ n → bl T n p < n → Gr n p h True (nn p)) (h2 : ∀ p, p ≤ n → bl T n p < n → Gr n p h True (pp p)) (hg : ∀ p, p ≤ n → Gr n p hs False (s p)) (hh : hs + 1 ≤ h) : ∀ p, p ≤ n → Gr n p h True (unt T n nn pp s p) := by
  intro p hp
  unfold unt
  by_cases c1 : ch T n (bl T n p) = 33
  · rw [if_pos c1]; exact h1 p hp (ch_lt c1 (by decide))
  · rw [if_neg c1]
    by_cases c2 : ch T n (bl T n p) = 40
    · rw [if_pos c2]; exact h2 p hp (ch_lt c2 (by decide))
    · rw [if_neg c2]
      have g1 := hg p hp
      match hz : s p, g1 with
      | .inl z, g1 => exact Gr_m (Gr_gCm hg g1.1 g1.2.1 g1.2.2) (Nat.le_refl _) hh (fun f => f)
      | .inr w, g1 => exact g1
theorem Gr_gNt {u : Nat → Rs Ex} {h p : Nat} (hg : ∀ p, p ≤ n → Gr n p h True (u p)) (hp : bl T n p < n) : Gr n p h True (gNt T n u p) := by
  unfold gNt
  have b2 := bl_ge (T := T) (n := n) (p := p)
  have g1 := hg (bl T n p + 1) (by omega)
  match hz : u (bl T n p + 1), g1 with
  | .inl z, g1 =>
    refine ⟨g1.1, ?_, g1.2.2.1, ?_, fun lt hl => ?_, fun _ lt hl => ?_⟩
    · show p + (z.1.1 ++ [(9, 0)]).length ≤ z.2
      have := g1.2.1
      simp only [List.length_append, List.length_cons, List.length_nil]; omega
    · show 1 ≤ (z.1.1 ++ [(9, 0)]).length
      simp only [List.length_append, List.length_cons, List.length_nil]; omega
    · show -1000000 ≤ 1 - z.1.2.1 lt ∧ 1 - z.1.2.1 lt ≤ 1000000
      have := g1.2.2.2.2.2 trivial lt hl
      omega
    · show 1 - z.1.2.1 lt = 0 ∨ 1 - z.1.2.1 lt = 1
      have := g1.2.2.2.2.2 trivial lt hl
      omega
  | .inr w, g1 => exact g1
theorem Gr_gUn : ∀ j p, p ≤ n → Gr n p (2 * j + 4) True (gUn T n j p)
  | 0 => by
    unfold gUn
    exact Gr_unt (hs := 3) (fun p hp _ => Gr_flt hp) (fun p hp _ => Gr_flt hp) (Gr_gSm 0) (by decide)
  | j + 1 => by
    have ih := Gr_gUn j
    unfold gUn
    refine Gr_unt (hs := 2 * (j + 1) + 3) (fun p hp hb => Gr_m (Gr_gNt ih hb) (Nat.le_refl _) (by omega) (fun f => f)) (fun p hp hb => ?_) (Gr_gSm (j + 1)) (by omega)
    exact Gr_m (Gr_inb (T := T) (c := 41) (p := bl T n p + 1) (Gr_gCd ih) (by decide) (by omega)) (by have := bl_ge (T := T) (n := n) (p := p); omega) (by omega) (fun f => f)
end P62
