theorem o_le {a b : Int} (h : a ≤ b) : (a ≤ b) = True := eq_true h
theorem o_nle {a b : Int} (h : ¬ a ≤ b) : (a ≤ b) = False := eq_false h
theorem o_lt {a b : Int} (h : a < b) : (a < b) = True := eq_true h
theorem o_nlt {a b : Int} (h : ¬ a < b) : (a < b) = False := eq_false h
theorem o_eq {a b : Int} (h : a = b) : (a = b) = True := eq_true h
theorem o_neq {a b : Int} (h : ¬ a = b) : (a = b) = False := eq_false h
/-! memories: one place, one cell, frames -/
theorem up_at {M : pz_M} {k j a b : Nat} {z : Int} : pz_up M k j z a b = if a = k ∧ b = j then z else M a b := rfl
theorem nw_at {M : pz_M} {k a b : Nat} {f : Nat → Int} : pz_nw M k f a b = if a = k then f b else M a b := rfl
theorem nw_s {M : pz_M} {k : Nat} {f : Nat → Int} : pz_nw M k f k = f := by funext b; rw [nw_at, if_pos rfl]
theorem nw_o {M : pz_M} {k a : Nat} {f : Nat → Int} (h : a ≠ k) : pz_nw M k f a = M a := by funext b; rw [nw_at, if_neg h]
theorem nw_nw {M : pz_M} {k : Nat} {f g : Nat → Int} : pz_nw (pz_nw M k f) k g = pz_nw M k g := by
  funext a b
  rw [nw_at, nw_at, nw_at]
  split <;> rfl
theorem up_nw {M : pz_M} {k j : Nat} {z : Int} : pz_up M k j z = pz_nw M k (fun i => if i = j then z else M k i) := by
  funext a b
  rw [up_at, nw_at]
  by_cases h : a = k
  · subst h
    by_cases h2 : b = j
    · rw [if_pos ⟨rfl, h2⟩, if_pos rfl, if_pos h2]
    · rw [if_neg (fun h => h2 h.2), if_pos rfl, if_neg h2]
  · rw [if_neg (fun h3 => h h3.1), if_neg h]
theorem nw_id {M : pz_M} {k : Nat} : pz_nw M k (M k) = M := by
  funext a b
  rw [nw_at]
  split
  · next h => rw [h]
  · rfl
theorem nw_up {M : pz_M} {k j : Nat} {z : Int} {f : Nat → Int} : pz_up (pz_nw M k f) k j z = pz_nw M k (fun i => if i = j then z else f i) := by
  rw [up_nw, nw_nw, nw_s]
/-- a row with one place anew -/
def upf (f : Nat → Int) (j : Nat) (z : Int) : Nat → Int := fun i => if i = j then z else f i
theorem upf_at {f : Nat → Int} {j i : Nat} {z : Int} : upf f j z i = if i = j then z else f i := rfl
theorem upf_s {f : Nat → Int} {j : Nat} {z : Int} : upf f j z j = z := if_pos rfl
theorem upf_o {f : Nat → Int} {j i : Nat} {z : Int} (h : i ≠ j) : upf f j z i = f i := if_neg h
theorem up_f {M : pz_M} {k j : Nat} {z : Int} : pz_up M k j z = pz_nw M k (upf (M k) j z) := up_nw
theorem nw_u {M : pz_M} {k j : Nat} {z : Int} {f : Nat → Int} : pz_up (pz_nw M k f) k j z = pz_nw M k (upf f j z) := nw_up
theorem nw_c {M : pz_M} {k l j : Nat} {z : Int} {f : Nat → Int} (h : l ≠ k) : pz_up (pz_nw M k f) l j z = pz_nw (pz_up M l j z) k f := by
  funext a b
  rw [up_at, nw_at, nw_at, up_at]
  by_cases h1 : a = l ∧ b = j
  · rw [if_pos h1, if_neg (by rw [h1.1]; exact h), if_pos h1]
  · rw [if_neg h1, if_neg h1]
/-- a memory that differs in some cells alone -/
def Fr (l : List Nat) (M M' : pz_M) : Prop := ∀ c, c ∉ l → M' c = M c
theorem Fr_r {l : List Nat} {M : pz_M} : Fr l M M := fun _ _ => rfl
theorem Fr_t {l : List Nat} {M M1 M2 : pz_M} (h1 : Fr l M M1) (h2 : Fr l M1 M2) : Fr l M M2 := fun c hc => (h2 c hc).trans (h1 c hc)
theorem Fr_s {l l2 : List Nat} {M M1 : pz_M} (h1 : Fr l M M1) (h2 : ∀ c ∈ l, c ∈ l2) : Fr l2 M M1 := fun c hc => h1 c (fun h => hc (h2 c h))
theorem Fr_nw {l : List Nat} {M : pz_M} {k : Nat} {f : Nat → Int} (h : k ∈ l) : Fr l M (pz_nw M k f) := fun c hc => nw_o (fun h2 => hc (h2 ▸ h))
theorem Fr_up {l : List Nat} {M : pz_M} {k j : Nat} {z : Int} (h : k ∈ l) : Fr l M (pz_up M k j z) := by rw [up_nw]; exact Fr_nw h
theorem Rf_fr {l : List Nat} {M M' : pz_M} (h : Rf M) (f : Fr l M M') (hl : ∀ q ∈ rf_L, q.1 ∉ l) : Rf M' := Rf_of h (fun q hq => by rw [f q.1 (hl q hq)])
/-- the cells that the class's thinking uses and forgets -/
def MS : List Nat := [100, 101, 102, 106, 107, 108, 109, 110, 111, 112, 113, 114, 115, 116, 117, 118, 121, 122, 123, 124, 125, 126, 127, 128, 129, 130, 131, 132, 133, 137, 140, 143, 146]
theorem MS_rf : ∀ q ∈ rf_L, q.1 ∉ MS := by decide +kernel
/-- a court and its row -/
def Ct (M : pz_M) (r : Int) (q : Nat) : Prop := M r.toNat 0 = (q : Int) ∧ (r = 9 ∧ q = 10 ∨ r = 11 ∧ q = 12)
/-- what stands in a row -/
def Ro (R : Nat → Int) : Prop := (∀ j, j < 144 → 0 ≤ R j ∧ R j ≤ 999) ∧ (∀ j, j < 4 → R j ≤ 9) ∧ (∀ c, c < 8 → R (7 + 7 * c + 6) ≤ 1) ∧ (∀ a, a < 6 → R (63 + 3 * a + 0) ≤ 100 ∧ R (63 + 3 * a + 1) ≤ 1) ∧ R 141 ≤ 8 ∧ R 142 ≤ 6 ∧ R 143 ≤ 60
/-- the letters of a law -/
def lts (R : Nat → Int) (c a d g : Nat) : Nat → Int := fun j => if j = 0 then d else if j = 1 then R (7 + 7 * c + d) else if j = 2 then g else if j = 3 then R (63 + 3 * a + 1) else if j = 4 then R 5 else if j = 5 then R (7 + 7 * c + 4) else if j = 6 then R 6 else if j = 7 then R (7 + 7 * c + 5) else 0
/-- what a cat is worth while no law holds -/
def hab (R : Nat → Int) (c a d g : Nat) : Int := if d = 0 then R (7 + 7 * c + d) + 2 * g + R (63 + 3 * a + 1) else if d = 1 then R (7 + 7 * c + d) + R (7 + 7 * c + 4) else if d = 3 then R (7 + 7 * c + d) + R 5 / 3 else R (7 + 7 * c + d)
def wor (L : Option ((Nat → Int) → Int)) (R : Nat → Int) (c a d g : Nat) : Int := match L with
  | none => hab R c a d g
  | some f => f (lts R c a d g)
def cl99 (w : Int) : Int := if w < 0 then 0 else if 99 < w then 99 else w
def mo (L : Option ((Nat → Int) → Int)) (R : Nat → Int) (c a g d : Nat) : Int := if d = 3 ∧ R (63 + 3 * a + 2) = 1 then 2 * cl99 (wor L R c a d g) else cl99 (wor L R c a d g)
theorem cl99_r (w : Int) : 0 ≤ cl99 w ∧ cl99 w ≤ 99 := by unfold cl99; split <;> (try split) <;> omega
theorem mo_r {L : Option ((Nat → Int) → Int)} {R : Nat → Int} {c a g d : Nat} : 0 ≤ mo L R c a g d ∧ mo L R c a g d ≤ 198 := by
  have := cl99_r (wor L R c a d g)
  unfold mo
  split <;> omega
/-- a law of the class that is worth f -/
def LawOk (M : pz_M) (k : Nat) (f : (Nat → Int) → Int) : Prop := ∀ (M' : pz_M) (lt : Nat → Int) (d : Nat) (ss : List (Nat × Nat)) (dd : Nat), Rf M' → M' (135 + 3 * k) = M (135 + 3 * k) → M' (136 + 3 * k) = M (136 + 3 * k) → (∀ j, j < 8 → M' 100 j = lt j ∧ 0 ≤ lt j ∧ lt j ≤ 999) → ∃ s, pz_cal (d + 2) 32 [(2, ((135 + 3 * k : Nat) : Int)), (2, 100)] ((pz_SH, ss, 0, 0, dd), M') = some (some (0, f lt), ((pz_SH, ss, 0, 0, dd), pz_nw M' (137 + 3 * k) s))
/-- the mind thinks of a court by a law -/
def Md (M : pz_M) (r : Int) (q : Nat) (L : Option ((Nat → Int) → Int)) : Prop := Rf M ∧ M 99 0 = r ∧ Ct M r q ∧ Ro (M q) ∧ match L with
  | none => M 99 1 = -1
  | some f => ∃ k : Nat, k < 4 ∧ M 99 1 = ((135 + 3 * k : Nat) : Int) ∧ LawOk M k f
theorem LawOk_fr {M M' : pz_M} {k : Nat} {f : (Nat → Int) → Int} (h : LawOk M k f) (h1 : M' (135 + 3 * k) = M (135 + 3 * k)) (h2 : M' (136 + 3 * k) = M (136 + 3 * k)) : LawOk M' k f := fun M'' lt d ss dd a b c e => h M'' lt d ss dd a (b.trans h1) (c.trans h2) e
theorem MS_law : ∀ k, k < 4 → 135 + 3 * k ∉ MS ∧ 136 + 3 * k ∉ MS ∧ 137 + 3 * k ∈ MS := by decide +kernel
theorem Md_fr {l : List Nat} {M M' : pz_M} {r : Int} {q : Nat} {L : Option ((Nat → Int) → Int)} (h : Md M r q L) (f : Fr l M M') (hl : ∀ c ∈ l, c ∈ MS) : Md M' r q L := by
  have f2 : Fr MS M M' := Fr_s f hl
  obtain ⟨h1, h2, h3, h4, h5⟩ := h
  have e99 : M' 99 = M 99 := f2 99 (by decide)
  have eq : M' q = M q := by
    rcases h3.2 with h | h
    · rw [h.2]; exact f2 10 (by decide)
    · rw [h.2]; exact f2 12 (by decide)
  have er : M' r.toNat = M r.toNat := by
    rcases h3.2 with h | h
    · rw [h.1]; exact f2 9 (by decide)
    · rw [h.1]; exact f2 11 (by decide)
  refine ⟨Rf_fr h1 f2 MS_rf, by rw [e99]; exact h2, ⟨by rw [er]; exact h3.1, h3.2⟩, by rw [eq]; exact h4, ?_⟩
  cases L with
  | none => show M' 99 1 = -1; rw [e99]; exact h5
  | some f =>
    obtain ⟨k, hk, h6, h7⟩ := h5
    have := MS_law k hk
    exact ⟨k, hk, by rw [e99]; exact h6, LawOk_fr h7 (f2 _ this.1) (f2 _ this.2.1)⟩
section P18
variable {d : Nat} {ss : List (Nat × Nat)} {dd : Nat} {M : pz_M} {r : Int} {q : Nat} {L : Option ((Nat → Int) → Int)}
theorem Ct_1 (h : Ct M r q) : pz_sh ((pz_SH, ss, 0, 0, dd), M) r = some (0, 1) := by
  rcases h.2 with ⟨rfl, _⟩ | ⟨rfl, _⟩
  · exact g_9
  · exact g_11
theorem Ct_2 (h : Ct M r q) : pz_sh ((pz_SH, ss, 0, 0, dd), M) (M r.toNat 0) = some (100, 144) := by
  rw [h.1]
  rcases h.2 with ⟨_, rfl⟩ | ⟨_, rfl⟩
  · exact g_10
  · exact g_12
theorem Ct_3 (h : Ct M r q) : r < 4096 := by rcases h.2 with h | h <;> omega
theorem Ct_4 (h : Ct M r q) : M r.toNat 0 < 4096 := by rw [h.1]; rcases h.2 with h | h <;> omega
theorem Ct_q (h : Ct M r q) : (M r.toNat 0).toNat = q := by rw [h.1]; rfl
theorem k_ofCat {c w : Nat} (h : Ct M r q) (hc : c < 8) (hw : w < 7) : pz_cal (d + 1) 15 [(2, r), (0, (c : Int)), (0, (w : Int))] ((pz_SH, ss, 0, 0, dd), M) = some (some (0, M q (7 + 7 * c + w)), ((pz_SH, ss, 0, 0, dd), M)) := by
  have e := c_Co_ofCat (d := d) (ss := ss) (dd := dd) (c := c) (w := w) (Ct_1 h) (Ct_2 h) (Ct_3 h) ⟨by omega, by omega⟩ ⟨by omega, by omega⟩
  rw [Ct_q h, show (7 + 7 * (c : Int) + w).toNat = 7 + 7 * c + w by omega] at e
  exact e
theorem k_ofAccused {c w : Nat} (h : Ct M r q) (hc : c < 6) (hw : w < 3) : pz_cal (d + 1) 13 [(2, r), (0, (c : Int)), (0, (w : Int))] ((pz_SH, ss, 0, 0, dd), M) = some (some (0, M q (63 + 3 * c + w)), ((pz_SH, ss, 0, 0, dd), M)) := by
  have e := c_Co_ofAccused (d := d) (ss := ss) (dd := dd) (c := c) (w := w) (Ct_1 h) (Ct_2 h) (Ct_3 h) ⟨by omega, by omega⟩ ⟨by omega, by omega⟩
  rw [Ct_q h, show (63 + 3 * (c : Int) + w).toNat = 63 + 3 * c + w by omega] at e
  exact e
theorem k_ofBench {w : Nat} (h : Ct M r q) (hw : w < 7) : pz_cal (d + 1) 11 [(2, r), (0, (w : Int))] ((pz_SH, ss, 0, 0, dd), M) = some (some (0, M q w), ((pz_SH, ss, 0, 0, dd), M)) := by
  have e := c_Co_ofBench (d := d) (ss := ss) (dd := dd) (w := w) (Ct_1 h) (Ct_2 h) (Ct_3 h) ⟨by omega, by omega⟩
  rw [Ct_q h, Int.toNat_natCast] at e
  exact e
theorem k_cats (h : Ct M r q) : pz_cal (d + 1) 4 [(2, r)] ((pz_SH, ss, 0, 0, dd), M) = some (some (0, M q 141), ((pz_SH, ss, 0, 0, dd), M)) := by
  have e := c_Co_cats (d := d) (ss := ss) (dd := dd) (Ct_1 h) (Ct_2 h) (Ct_3 h)
  rw [Ct_q h] at e
  exact e
theorem k_people (h : Ct M r q) : pz_cal (d + 1) 6 [(2, r)] ((pz_SH, ss, 0, 0, dd), M) = some (some (0, M q 142), ((pz_SH, ss, 0, 0, dd), M)) := by
  have e := c_Co_people (d := d) (ss := ss) (dd := dd) (Ct_1 h) (Ct_2 h) (Ct_3 h)
  rw [Ct_q h] at e
  exact e
theorem k_logged (h : Ct M r q) : pz_cal (d + 1) 16 [(2, r)] ((pz_SH, ss, 0, 0, dd), M) = some (some (0, M q 143), ((pz_SH, ss, 0, 0, dd), M)) := by
  have e := c_Co_logged (d := d) (ss := ss) (dd := dd) (Ct_1 h) (Ct_2 h) (Ct_3 h)
  rw [Ct_q h] at e
  exact e
theorem k_entryAt {i : Nat} (h : Ct M r q) (hi : i < 60) : pz_cal (d + 1) 19 [(2, r), (0, (i : Int))] ((pz_SH, ss, 0, 0, dd), M) = some (some (0, M q (81 + i)), ((pz_SH, ss, 0, 0, dd), M)) := by
  have e := c_Co_entryAt (d := d) (ss := ss) (dd := dd) (i := i) (Ct_1 h) (Ct_2 h) (Ct_3 h) ⟨by omega, by omega⟩
  rw [Ct_q h, show (81 + (i : Int)).toNat = 81 + i by omega] at e
  exact e
theorem k_hasCat {c : Int} (h : Ct M r q) : pz_cal (d + 2) 17 [(2, r), (0, c)] ((pz_SH, ss, 0, 0, dd), M) = some (some (0, if 0 ≤ c ∧ c < M q 141 then 1 else 0), ((pz_SH, ss, 0, 0, dd), M)) := by
  have e := c_Co_hasCat (d := d) (ss := ss) (dd := dd) (c := c) (Ct_1 h) (Ct_2 h) (Ct_3 h)
  rw [Ct_q h] at e
  exact e
theorem k_hasAccused {c : Int} (h : Ct M r q) : pz_cal (d + 2) 12 [(2, r), (0, c)] ((pz_SH, ss, 0, 0, dd), M) = some (some (0, if 0 ≤ c ∧ c < M q 142 then 1 else 0), ((pz_SH, ss, 0, 0, dd), M)) := by
  have e := c_Co_hasAccused (d := d) (ss := ss) (dd := dd) (c := c) (Ct_1 h) (Ct_2 h) (Ct_3 h)
  rw [Ct_q h] at e
  exact e
theorem k_serving {n : Nat} (h : Ct M r q) (hn : M q 141 = (n : Int)) (h8 : n ≤ 8) : pz_cal (d + 2) 14 [(2, r)] ((pz_SH, ss, 0, 0, dd), M) = some (some (0, srv (M q) n), ((pz_SH, ss, 0, 0, dd), M)) := by
  have e := c_Co_serving (d := d) (ss := ss) (dd := dd) (n := n) (Ct_1 h) (Ct_2 h) (Ct_3 h) (by rw [Ct_q h]; exact hn) h8
  rw [Ct_q h] at e
  exact e
theorem k_setBench {w : Nat} {v : Int} (h : Ct M r q) (hw : w < 7) : pz_cal (d + 2) 2 [(2, r), (0, (w : Int)), (0, v)] ((pz_SH, ss, 0, 0, dd), M) = some (none, ((pz_SH, ss, 0, 0, dd), pz_up M q w v)) := by
  have e := c_Co_setBench (d := d) (ss := ss) (dd := dd) (w := w) (v := v) (Ct_1 h) (Ct_2 h) (Ct_3 h) (Ct_4 h) ⟨by omega, by omega⟩
  rw [Ct_q h, Int.toNat_natCast] at e
  exact e
theorem k_setCat {c w : Nat} {v : Int} (h : Ct M r q) (hc : c < 8) (hw : w < 7) : pz_cal (d + 2) 5 [(2, r), (0, (c : Int)), (0, (w : Int)), (0, v)] ((pz_SH, ss, 0, 0, dd), M) = some (none, ((pz_SH, ss, 0, 0, dd), pz_up M q (7 + 7 * c + w) v)) := by
  have e := c_Co_setCat (d := d) (ss := ss) (dd := dd) (c := c) (w := w) (v := v) (Ct_1 h) (Ct_2 h) (Ct_3 h) (Ct_4 h) ⟨by omega, by omega⟩ ⟨by omega, by omega⟩
  rw [Ct_q h, show (7 + 7 * (c : Int) + w).toNat = 7 + 7 * c + w by omega] at e
  exact e
theorem k_setAccused {c w : Nat} {v : Int} (h : Ct M r q) (hc : c < 6) (hw : w < 3) : pz_cal (d + 2) 7 [(2, r), (0, (c : Int)), (0, (w : Int)), (0, v)] ((pz_SH, ss, 0, 0, dd), M) = some (none, ((pz_SH, ss, 0, 0, dd), pz_up M q (63 + 3 * c + w) v)) := by
  have e := c_Co_setAccused (d := d) (ss := ss) (dd := dd) (c := c) (w := w) (v := v) (Ct_1 h) (Ct_2 h) (Ct_3 h) (Ct_4 h) ⟨by omega, by omega⟩ ⟨by omega, by omega⟩
  rw [Ct_q h, show (63 + 3 * (c : Int) + w).toNat = 63 + 3 * c + w by omega] at e
  exact e
end P18
