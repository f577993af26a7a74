/-! THE GRAMMAR OF A COURT: one reader for both -/
/-- the item that a letter tells, in a clause of kind q -/
def itm (q c : Int) : Int := if q = 98 then (if c = 112 then 0 else if c = 116 then 1 else if c = 117 then 2 else if c = 108 then 3 else if c = 110 then 4 else if c = 104 then 5 else if c = 109 then 6 else -1) else if q = 99 then (if c = 112 then 0 else if c = 116 then 1 else if c = 117 then 2 else if c = 108 then 3 else if c = 102 then 4 else if c = 99 then 5 else -1) else (if c = 103 then 0 else if c = 107 then 1 else if c = 100 then 2 else -1)
/-- the most that it may be -/
def hig (q k : Int) : Int := if q = 98 then (if k = 4 then 99 else if k = 6 then 27 else 9) else if q = 99 then (if k = 5 then 99 else 9) else (if k = 0 then 99 else 1)
/-- what it is without -/
def usu (q : Int) (k : Nat) : Int := if q = 98 then (if k < 4 then 3 - (k : Int) else if k = 4 then 3 else if k = 5 then 4 else 0) else if q = 99 then (if k < 4 then 1 else 0) else (if k = 0 then 50 else 0)
/-- how many items there are -/
def cnt (q : Int) : Nat := if q = 98 then 7 else if q = 99 then 6 else 3
def KQ (q : Int) : Prop := q = 98 ∨ q = 99 ∨ q = 97
def hs1 (th k : Int) : Prop := pz_and (pz_shr th k) 1 = 1
def or1 (th k : Int) : Int := pz_or th (pz_shl 1 k)
theorem itm_r {q c : Int} (h : KQ q) : itm q c = -1 ∨ 0 ≤ itm q c ∧ itm q c < (cnt q : Int) ∧ itm q c < 7 := by
  unfold itm cnt
  rcases h with rfl | rfl | rfl
  · simp only [↓reduceIte]
    repeat' split
    all_goals omega
  · simp only [show ¬((99 : Int) = 98) by decide, ↓reduceIte]
    repeat' split
    all_goals omega
  · simp only [show ¬((97 : Int) = 98) by decide, show ¬((97 : Int) = 99) by decide, ↓reduceIte]
    repeat' split
    all_goals omega
theorem hig_r {q k : Int} : 1 ≤ hig q k ∧ hig q k ≤ 99 := by
  unfold hig
  repeat' split
  all_goals omega
theorem usu_r {q : Int} {k : Nat} (h : KQ q) (hk : k < cnt q) : 0 ≤ usu q k ∧ usu q k ≤ hig q k := by
  unfold usu hig cnt at *
  rcases h with rfl | rfl | rfl
  · simp only [↓reduceIte] at *
    repeat' split
    all_goals omega
  · simp only [show ¬((99 : Int) = 98) by decide, ↓reduceIte] at *
    repeat' split
    all_goals omega
  · simp only [show ¬((97 : Int) = 98) by decide, show ¬((97 : Int) = 99) by decide, ↓reduceIte] at *
    repeat' split
    all_goals omega
/-- how many bits are set -/
def pcx (th : Nat) : Nat → Nat
  | 0 => 0
  | k + 1 => pcx th k + (if pz_and (pz_shr (th : Int) (k : Int)) 1 = 1 then 1 else 0)
theorem pcx_or : ∀ th, th < 128 → ∀ k, k < 7 → pz_and (pz_shr ((th : Nat) : Int) ((k : Nat) : Int)) 1 ≠ 1 → 0 ≤ pz_or (th : Int) (pz_shl 1 (k : Int)) ∧ pz_or (th : Int) (pz_shl 1 (k : Int)) < 128 ∧ pcx (pz_or (th : Int) (pz_shl 1 (k : Int))).toNat 7 = pcx th 7 + 1 := by decide +kernel
theorem pcx_le : ∀ th, th < 128 → pcx th 7 ≤ 7 ∧ (pcx th 7 = 7 → ∀ k, k < 7 → pz_and (pz_shr ((th : Nat) : Int) ((k : Nat) : Int)) 1 = 1) := by decide +kernel
/-- i items are there -/
def Tb (th : Int) (i : Nat) : Prop := 0 ≤ th ∧ th < 128 ∧ pcx th.toNat 7 = i
theorem Tb_0 : Tb 0 0 := ⟨by decide, by decide, by decide⟩
theorem Tb_s {th k : Int} {i : Nat} (h : Tb th i) (hk : 0 ≤ k ∧ k < 7) (g : ¬hs1 th k) : Tb (or1 th k) (i + 1) := by
  obtain ⟨a, b, c⟩ := h
  have t := pcx_or th.toNat (by omega) k.toNat (by omega)
  rw [show ((th.toNat : Nat) : Int) = th by omega, show ((k.toNat : Nat) : Int) = k by omega] at t
  have t := t g
  exact ⟨t.1, t.2.1, by rw [← c]; exact t.2.2⟩
theorem Tb_7 {th k : Int} {i : Nat} (h : Tb th i) (hk : 0 ≤ k ∧ k < 7) (g : ¬hs1 th k) : i < 7 := by
  obtain ⟨a, b, c⟩ := h
  have t := pcx_le th.toNat (by omega)
  have t2 : pcx th.toNat 7 ≠ 7 := fun e => by
    have := t.2 e k.toNat (by omega)
    rw [show ((th.toNat : Nat) : Int) = th by omega, show ((k.toNat : Nat) : Int) = k by omega] at this
    exact g this
  have := t.1
  omega
section P86
variable (T : Nat → Int) (n : Nat)
def gIt (q : Int) (base : Nat) : Nat → Int → (Nat → Int) → Nat → Rs (Nat → Int)
  | 0, _, R, p => .inl (R, p)
  | f + 1, th, R, p => if itm q (ch T n (bl T n p)) = -1 ∨ pz_and (pz_shr th (itm q (ch T n (bl T n p)))) 1 = 1 then .inl (R, bl T n p) else match numb T n 2 (hig q (itm q (ch T n (bl T n p)))) (bl T n p + 1) with
    | .inl z => gIt q base f (or1 th (itm q (ch T n (bl T n p)))) (upf R (base + (itm q (ch T n (bl T n p))).toNat) z.1) z.2
    | .inr w => .inr w
/-- a new cat, a new accused one -/
def newC (R : Nat → Int) : Nat → Int := fun j => if j = 141 then R 141 + 1 else if 7 + 7 * (R 141).toNat ≤ j ∧ j < 7 + 7 * (R 141).toNat + 6 then usu 99 (j - (7 + 7 * (R 141).toNat)) else R j
def newA (R : Nat → Int) : Nat → Int := fun j => if j = 142 then R 142 + 1 else if 63 + 3 * (R 142).toNat ≤ j ∧ j < 63 + 3 * (R 142).toNat + 3 then usu 97 (j - (63 + 3 * (R 142).toNat)) else R j
def bgI (r : Rs (Nat → Int)) (hb : Int) : Rs (Int × (Nat → Int)) := match r with
  | .inl z => .inl ((hb, z.1), z.2)
  | .inr w => .inr w
def gCc (hb : Int) (R : Nat → Int) (p : Nat) : Rs (Int × (Nat → Int)) := if ch T n (bl T n p) = 98 ∧ hb = 0 then bgI (gIt T n 98 0 8 0 R (bl T n p + 1)) 1 else if ch T n (bl T n p) = 99 ∧ R 141 < 8 then bgI (gIt T n 99 (7 + 7 * (R 141).toNat) 8 0 (newC R) (bl T n p + 1)) hb else if ch T n (bl T n p) = 97 ∧ R 142 < 6 then bgI (gIt T n 97 (63 + 3 * (R 142).toNat) 8 0 (newA R) (bl T n p + 1)) hb else .inr (bl T n p)
def gCs : Nat → Int × (Nat → Int) → Nat → Rs (Int × (Nat → Int))
  | 0, s, p => .inl (s, bl T n p)
  | f + 1, s, p => if ch T n (bl T n p) = 59 then (match gCc T n s.1 s.2 (bl T n p + 1) with
    | .inl z => gCs f z.1 z.2
    | .inr w => .inr w) else .inl (s, bl T n p)
def gCe (r : Rs (Int × (Nat → Int))) : Rs (Nat → Int) := match r with
  | .inl y => if ch T n (bl T n y.2) = -1 ∧ y.1.2 141 ≠ 0 ∧ y.1.2 142 ≠ 0 then .inl (y.1.2, bl T n y.2) else .inr (bl T n y.2)
  | .inr w => .inr w
def gCn (f : Nat) (r : Rs (Int × (Nat → Int))) : Rs (Int × (Nat → Int)) := match r with
  | .inl z => gCs T n f z.1 z.2
  | .inr w => .inr w
def row0 : Nat → Int := fun j => if j < 7 then usu 98 j else 0
def gCt : Rs (Nat → Int) := gCe T n (gCn T n 240 (gCc T n 0 row0 0))
end P86
/-- a row as a text tells it -/
def CI (R : Nat → Int) : Prop := (∀ k, k < 7 → 0 ≤ R k ∧ R k ≤ hig 98 (k : Int)) ∧ (∀ c k, c < 8 → k < 6 → 0 ≤ R (7 + 7 * c + k) ∧ R (7 + 7 * c + k) ≤ hig 99 (k : Int)) ∧ (∀ c, c < 8 → R (7 + 7 * c + 6) = 0) ∧ (∀ a k, a < 6 → k < 3 → 0 ≤ R (63 + 3 * a + k) ∧ R (63 + 3 * a + k) ≤ hig 97 (k : Int)) ∧ (∀ j, 81 ≤ j → j < 141 → R j = 0) ∧ (0 ≤ R 141 ∧ R 141 ≤ 8) ∧ (0 ≤ R 142 ∧ R 142 ≤ 6) ∧ R 143 = 0
/-- where the items of a clause may stand -/
def Bs (q : Int) (base : Nat) (R : Nat → Int) : Prop := q = 98 ∧ base = 0 ∨ (q = 99 ∧ ∃ c, c < 8 ∧ base = 7 + 7 * c ∧ R 141 = (c : Int) + 1) ∨ (q = 97 ∧ ∃ a, a < 6 ∧ base = 63 + 3 * a ∧ R 142 = (a : Int) + 1)
theorem Bs_q {q : Int} {base : Nat} {R : Nat → Int} (h : Bs q base R) : KQ q := by
  rcases h with ⟨h, _⟩ | ⟨h, _⟩ | ⟨h, _⟩
  · exact .inl h
  · exact .inr (.inl h)
  · exact .inr (.inr h)
theorem Bs_lt {q : Int} {base : Nat} {R : Nat → Int} (h : Bs q base R) : base + cnt q ≤ 81 := by
  rcases h with ⟨rfl, h⟩ | ⟨rfl, c, h1, h2, h3⟩ | ⟨rfl, c, h1, h2, h3⟩
  · show base + 7 ≤ 81; omega
  · show base + 6 ≤ 81; omega
  · show base + 3 ≤ 81; omega
theorem Bs_upf {q : Int} {base j : Nat} {R : Nat → Int} {v : Int} (h : Bs q base R) (hj : j < 81) : Bs q base (upf R j v) := by
  rcases h with h | ⟨h, c, h1, h2, h3⟩ | ⟨h, c, h1, h2, h3⟩
  · exact .inl h
  · exact .inr (.inl ⟨h, c, h1, h2, by rw [upf_o (by omega)]; exact h3⟩)
  · exact .inr (.inr ⟨h, c, h1, h2, by rw [upf_o (by omega)]; exact h3⟩)
theorem CI_upf {q : Int} {base k : Nat} {R : Nat → Int} {v : Int} (h : CI R) (hB : Bs q base R) (hk : k < cnt q) (hv : 0 ≤ v ∧ v ≤ hig q (k : Int)) : CI (upf R (base + k) v) := by
  obtain ⟨a, b, cc, d, e, f, g, i⟩ := h
  have lt := Bs_lt hB
  refine ⟨fun j hj => ?_, fun x y hx hy => ?_, fun x hx => ?_, fun x y hx hy => ?_, fun j h1 h2 => ?_, ?_, ?_, ?_⟩
  · rcases hB with ⟨rfl, rfl⟩ | ⟨rfl, c, h1, rfl, h3⟩ | ⟨rfl, c, h1, rfl, h3⟩
    · by_cases z : j = k
      · rw [upf_at, if_pos (by omega), z]; exact hv
      · rw [upf_o (by omega)]; exact a j hj
    · rw [upf_o (by omega)]; exact a j hj
    · rw [upf_o (by omega)]; exact a j hj
  · rcases hB with ⟨rfl, rfl⟩ | ⟨rfl, c, h1, rfl, h3⟩ | ⟨rfl, c, h1, rfl, h3⟩
    · have hk : k < 7 := hk
      rw [upf_o (by omega)]; exact b x y hx hy
    · have hk : k < 6 := hk
      by_cases z : x = c ∧ y = k
      · rw [upf_at, if_pos (by omega), z.2]; exact hv
      · rw [upf_o (by omega)]; exact b x y hx hy
    · rw [upf_o (by omega)]; exact b x y hx hy
  · rcases hB with ⟨rfl, rfl⟩ | ⟨rfl, c, h1, rfl, h3⟩ | ⟨rfl, c, h1, rfl, h3⟩
    · have hk : k < 7 := hk
      rw [upf_o (by omega)]; exact cc x hx
    · have hk : k < 6 := hk
      rw [upf_o (by omega)]; exact cc x hx
    · rw [upf_o (by omega)]; exact cc x hx
  · rcases hB with ⟨rfl, rfl⟩ | ⟨rfl, c, h1, rfl, h3⟩ | ⟨rfl, c, h1, rfl, h3⟩
    · have hk : k < 7 := hk
      rw [upf_o (by omega)]; exact d x y hx hy
    · have hk : k < 6 := hk
      rw [upf_o (by omega)]; exact d x y hx hy
    · have hk : k < 3 := hk
      by_cases z : x = c ∧ y = k
      · rw [upf_at, if_pos (by omega), z.2]; exact hv
      · rw [upf_o (by omega)]; exact d x y hx hy
  · rw [upf_o (by omega)]; exact e j h1 h2
  · rw [upf_o (by omega)]; exact f
  · rw [upf_o (by omega)]; exact g
  · rw [upf_o (by omega)]; exact i
theorem CI_0 : CI row0 := by
  refine ⟨fun k hk => ?_, fun c k hc hk => ?_, fun c hc => ?_, fun a k ha hk => ?_, fun j h1 h2 => ?_, ?_, ?_, ?_⟩
  · unfold row0; rw [if_pos hk]; exact usu_r (.inl rfl) hk
  · unfold row0; rw [if_neg (by omega)]; have := hig_r (q := 99) (k := (k : Int)); omega
  · unfold row0; rw [if_neg (by omega)]
  · unfold row0; rw [if_neg (by omega)]; have := hig_r (q := 97) (k := (k : Int)); omega
  · unfold row0; rw [if_neg (by omega)]
  · unfold row0; rw [if_neg (by omega)]; omega
  · unfold row0; rw [if_neg (by omega)]; omega
  · unfold row0; rw [if_neg (by omega)]
theorem newC_o {R : Nat → Int} {j : Nat} (h1 : j ≠ 141) (h2 : ¬(7 + 7 * (R 141).toNat ≤ j ∧ j < 7 + 7 * (R 141).toNat + 6)) : newC R j = R j := by unfold newC; rw [if_neg h1, if_neg h2]
theorem newA_o {R : Nat → Int} {j : Nat} (h1 : j ≠ 142) (h2 : ¬(63 + 3 * (R 142).toNat ≤ j ∧ j < 63 + 3 * (R 142).toNat + 3)) : newA R j = R j := by unfold newA; rw [if_neg h1, if_neg h2]
theorem newC_i {R : Nat → Int} {k : Nat} (h : R 141 < 8) (hk : k < 6) : newC R (7 + 7 * (R 141).toNat + k) = usu 99 k := by unfold newC; rw [if_neg (by omega), if_pos (by omega)]; congr 1; omega
theorem newA_i {R : Nat → Int} {k : Nat} (h : R 142 < 6) (hk : k < 3) : newA R (63 + 3 * (R 142).toNat + k) = usu 97 k := by unfold newA; rw [if_neg (by omega), if_pos (by omega)]; congr 1; omega
theorem newC_n {R : Nat → Int} : newC R 141 = R 141 + 1 := by unfold newC; rw [if_pos rfl]
theorem newA_n {R : Nat → Int} : newA R 142 = R 142 + 1 := by unfold newA; rw [if_pos rfl]
theorem CI_newC {R : Nat → Int} (h : CI R) (h8 : R 141 < 8) : CI (newC R) ∧ Bs 99 (7 + 7 * (R 141).toNat) (newC R) := by
  obtain ⟨a, b, cc, d, e, f, g, i⟩ := h
  refine ⟨⟨fun k hk => ?_, fun c k hc hk => ?_, fun c hc => ?_, fun x k ha hk => ?_, fun j h1 h2 => ?_, ?_, ?_, ?_⟩, .inr (.inl ⟨rfl, (R 141).toNat, by omega, rfl, by rw [newC_n]; omega⟩)⟩
  · rw [newC_o (by omega) (by omega)]; exact a k hk
  · by_cases z : c = (R 141).toNat
    · rw [z, newC_i h8 hk]; exact usu_r (.inr (.inl rfl)) hk
    · rw [newC_o (by omega) (by omega)]; exact b c k hc hk
  · rw [newC_o (by omega) (by omega)]; exact cc c hc
  · rw [newC_o (by omega) (by omega)]; exact d x k ha hk
  · rw [newC_o (by omega) (by omega)]; exact e j h1 h2
  · rw [newC_n]; omega
  · rw [newC_o (by omega) (by omega)]; exact g
  · rw [newC_o (by omega) (by omega)]; exact i
theorem CI_newA {R : Nat → Int} (h : CI R) (h8 : R 142 < 6) : CI (newA R) ∧ Bs 97 (63 + 3 * (R 142).toNat) (newA R) := by
  obtain ⟨a, b, cc, d, e, f, g, i⟩ := h
  refine ⟨⟨fun k hk => ?_, fun c k hc hk => ?_, fun c hc => ?_, fun x k ha hk => ?_, fun j h1 h2 => ?_, ?_, ?_, ?_⟩, .inr (.inr ⟨rfl, (R 142).toNat, by omega, rfl, by rw [newA_n]; omega⟩)⟩
  · rw [newA_o (by omega) (by omega)]; exact a k hk
  · rw [newA_o (by omega) (by omega)]; exact b c k hc hk
  · rw [newA_o (by omega) (by omega)]; exact cc c hc
  · by_cases z : x = (R 142).toNat
    · rw [z, newA_i h8 hk]; exact usu_r (.inr (.inr rfl)) hk
    · rw [newA_o (by omega) (by omega)]; exact d x k ha hk
  · rw [newA_o (by omega) (by omega)]; exact e j h1 h2
  · rw [newA_o (by omega) (by omega)]; exact f
  · rw [newA_n]; omega
  · rw [newA_o (by omega) (by omega)]; exact i
/-- what items leave of a row -/
def Gi (n p0 : Nat) (q : Int) (base : Nat) (R : Nat → Int) (r : Rs (Nat → Int)) : Prop := match r with
  | .inl z => z.2 ≤ n ∧ p0 ≤ z.2 ∧ CI z.1 ∧ ∀ j, ¬(base ≤ j ∧ j < base + cnt q) → z.1 j = R j
  | .inr w => w ≤ n
theorem Gi_gIt {T : Nat → Int} {n : Nat} {q : Int} {base : Nat} : ∀ f th R p, CI R → Bs q base R → p ≤ n → Gi n p q base R (gIt T n q base f th R p)
  | 0, th, R, p, h, hB, hp => ⟨hp, Nat.le_refl _, h, fun _ _ => rfl⟩
  | f + 1, th, R, p, h, hB, hp => by
    have b1 := bl_le (T := T) hp
    have b2 := bl_ge (T := T) (n := n) (p := p)
    unfold gIt
    by_cases c : itm q (ch T n (bl T n p)) = -1 ∨ pz_and (pz_shr th (itm q (ch T n (bl T n p)))) 1 = 1
    · rw [if_pos c]; exact ⟨b1, b2, h, fun _ _ => rfl⟩
    · rw [if_neg c]
      have ir := itm_r (c := ch T n (bl T n p)) (Bs_q hB)
      have i0 : itm q (ch T n (bl T n p)) ≠ -1 := fun e => c (.inl e)
      have b3 : bl T n p < n := ch_lt (T := T) rfl (fun e => i0 (by
        rw [e]
        unfold itm
        rcases Bs_q hB with rfl | rfl | rfl <;> decide))
      have nr := numb_r (T := T) (n := n) (D := 2) (p := bl T n p + 1) (most := hig q (itm q (ch T n (bl T n p)))) (by omega) (by decide)
      have lt := Bs_lt hB
      match hz : numb T n 2 (hig q (itm q (ch T n (bl T n p)))) (bl T n p + 1), nr with
      | .inl z, nr =>
        have nr : z.2 ≤ n ∧ bl T n p + 1 + 1 ≤ z.2 ∧ 0 ≤ z.1 ∧ z.1 ≤ hig q (itm q (ch T n (bl T n p))) := nr
        have hk : (itm q (ch T n (bl T n p))).toNat < cnt q := by omega
        have ih := Gi_gIt (T := T) (n := n) f (or1 th (itm q (ch T n (bl T n p)))) (upf R (base + (itm q (ch T n (bl T n p))).toNat) z.1) z.2 (CI_upf h hB hk (by rw [show (((itm q (ch T n (bl T n p))).toNat : Nat) : Int) = itm q (ch T n (bl T n p)) by omega]; exact nr.2.2)) (Bs_upf hB (by omega)) nr.1
        show Gi n p q base R (gIt T n q base f _ _ z.2)
        match hy : gIt T n q base f (or1 th (itm q (ch T n (bl T n p)))) (upf R (base + (itm q (ch T n (bl T n p))).toNat) z.1) z.2, ih with
        | .inl y, ih => exact ⟨ih.1, by have := ih.2.1; omega, ih.2.2.1, fun j hj => by rw [ih.2.2.2 j hj, upf_o (by omega)]⟩
        | .inr w, ih => exact ih
      | .inr w, nr => exact nr
