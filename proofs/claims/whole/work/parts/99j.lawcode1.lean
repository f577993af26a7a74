/-! THE LAW'S OWN CODE, by the tables -/
section P9j
def lw_ck (pc : Nat) (su : List pz_E) : Bool := pz_ckL pz_t_gf pz_t_pf pz_t_pfi pz_t_ki pz_t_kl pz_t_gs pz_t_nw pz_t_an pz_t_iv pz_t_is pz_t_ii pz_t_mt pz_t_oc pz_t_oo pz_t_mu 12 false 1 code pc su
theorem lw_ck_ok {SP : Nat → Prop} {su : List pz_E} {pc : Nat} (h : lw_ck pc su = true) : pz_okL pz_mi SP "CatCourtLaw" "law" code (some .boolean) pc su := pz_ckL_ok (ow := 12) (ini := false) (cc := code) (own := "CatCourtLaw") (mnm := "law") (rt := some .boolean) pz_tok_ok rfl (fun h => by cases h) SP su pc h
theorem okL_app {mi : Nat → Option pz_I} {SP : Nat → Prop} {own mnm : String} {cc : ByteArray} {rt : Option FieldType} {B : List pz_E} : ∀ (A : List pz_E) (pc : Nat), pz_okL mi SP own mnm cc rt pc A → pz_okL mi SP own mnm cc rt (pc + (A.map (·.2.1)).sum) B → pz_okL mi SP own mnm cc rt pc (A ++ B)
  | [], pc, _, h => by simpa using h
  | e :: r, pc, h, g => ⟨h.1, okL_app r _ h.2 (by rw [List.map_cons, List.sum_cons, ← Nat.add_assoc] at g; exact g)⟩
theorem lw_b0 : lw_ck 0 (pz_bk bl_Lw_law 0) = true := by decide +kernel
theorem lw_b23 : lw_ck 23 (pz_bk bl_Lw_law 23) = true := by decide +kernel
theorem lw_b240 : lw_ck 240 (pz_bk bl_Lw_law 240) = true := by decide +kernel
theorem lw_b313 : lw_ck 313 (pz_bk bl_Lw_law 313) = true := by decide +kernel
theorem lw_b338 : lw_ck 338 (pz_bk bl_Lw_law 338) = true := by decide +kernel
theorem lw_b363 : lw_ck 363 (pz_bk bl_Lw_law 363) = true := by decide +kernel
theorem lw_b388 : lw_ck 388 (pz_bk bl_Lw_law 388) = true := by decide +kernel
theorem lw_b461 : lw_ck 461 (pz_bk bl_Lw_law 461) = true := by decide +kernel
theorem lw_b478 : lw_ck 478 (pz_bk bl_Lw_law 478) = true := by decide +kernel
theorem lw_b481 : lw_ck 481 (pz_bk bl_Lw_law 481) = true := by decide +kernel
theorem lw_b518 : lw_ck 518 (pz_bk bl_Lw_law 518) = true := by decide +kernel
theorem lw_b543 : lw_ck 543 (pz_bk bl_Lw_law 543) = true := by decide +kernel
theorem lw_b604 : lw_ck 604 (pz_bk bl_Lw_law 604) = true := by decide +kernel
theorem lw_b665 : lw_ck 665 (pz_bk bl_Lw_law 665) = true := by decide +kernel
theorem lw_b714 : lw_ck 714 (pz_bk bl_Lw_law 714) = true := by decide +kernel
end P9j
