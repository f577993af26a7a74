/-! THE LAW'S OWN CODE: all of it; and that of CatCourtLaw.cat -/
section P9n
theorem lw_pcs : bl_Lw_law.map (·.1) = [0, 23, 240, 313, 338, 363, 388, 413, 461, 478, 481, 518, 543, 604, 665, 714, 751, 776, 801, 826, 846, 847, 870, 871, 879, 899, 900, 923, 924, 932, 1013, 1026, 1063, 1112, 1137, 1174, 1235, 1284, 1345, 1382, 1419, 1456, 1505, 1554, 1603, 1652, 1701, 1750, 1799, 1824, 1849, 1862, 1887, 1924, 1937, 1962, 1975, 1988, 2013, 2019] := rfl
theorem pz_bk_none {bl : List (Nat × List pz_E)} {pc : Nat} (h : pc ∉ bl.map (·.1)) : pz_bk bl pc = [] := by
  unfold pz_bk
  induction bl with
  | nil => rfl
  | cons q r ih =>
    obtain ⟨a, L⟩ := q
    rw [List.map_cons, List.mem_cons, not_or] at h
    rw [List.lookup_cons]
    have : (pc == a) = false := beq_false_of_ne h.1
    rw [this]
    exact ih h.2
theorem lw_okl (pc : Nat) : pz_okL pz_mi (fun pc => pc = 427) "CatCourtLaw" "law" code (some .boolean) pc (pz_bk bl_Lw_law pc) := by
  by_cases h : pc = 413
  · subst h
    show pz_okL pz_mi (fun pc => pc = 427) "CatCourtLaw" "law" code (some .boolean) 413 ((pz_bk bl_Lw_law 413).take 12 ++ ((.invokestatic 42, 3, 297, 4, 1, 6, 0) :: (pz_bk bl_Lw_law 413).drop 13))
    refine okL_app _ _ (lw_ck_ok (by decide +kernel)) ⟨⟨by decide +kernel, rfl, Or.inr (Or.inr (Or.inl ⟨rfl, rfl⟩))⟩, lw_ck_ok (by decide +kernel)⟩
  · by_cases hm : pc ∈ bl_Lw_law.map (·.1)
    · rw [lw_pcs] at hm
      simp only [List.mem_cons, List.not_mem_nil, or_false] at hm
      rcases hm with rfl | rfl | rfl | rfl | rfl | rfl | rfl | rfl | rfl | rfl | rfl | rfl | rfl | rfl | rfl | rfl | rfl | rfl | rfl | rfl | rfl | rfl | rfl | rfl | rfl | rfl | rfl | rfl | rfl | rfl | rfl | rfl | rfl | rfl | rfl | rfl | rfl | rfl | rfl | rfl | rfl | rfl | rfl | rfl | rfl | rfl | rfl | rfl | rfl | rfl | rfl | rfl | rfl | rfl | rfl | rfl | rfl | rfl | rfl | rfl
      · exact lw_ck_ok lw_b0
      · exact lw_ck_ok lw_b23
      · exact lw_ck_ok lw_b240
      · exact lw_ck_ok lw_b313
      · exact lw_ck_ok lw_b338
      · exact lw_ck_ok lw_b363
      · exact lw_ck_ok lw_b388
      · exact absurd rfl h
      · exact lw_ck_ok lw_b461
      · exact lw_ck_ok lw_b478
      · exact lw_ck_ok lw_b481
      · exact lw_ck_ok lw_b518
      · exact lw_ck_ok lw_b543
      · exact lw_ck_ok lw_b604
      · exact lw_ck_ok lw_b665
      · exact lw_ck_ok lw_b714
      · exact lw_ck_ok lw_b751
      · exact lw_ck_ok lw_b776
      · exact lw_ck_ok lw_b801
      · exact lw_ck_ok lw_b826
      · exact lw_ck_ok lw_b846
      · exact lw_ck_ok lw_b847
      · exact lw_ck_ok lw_b870
      · exact lw_ck_ok lw_b871
      · exact lw_ck_ok lw_b879
      · exact lw_ck_ok lw_b899
      · exact lw_ck_ok lw_b900
      · exact lw_ck_ok lw_b923
      · exact lw_ck_ok lw_b924
      · exact lw_ck_ok lw_b932
      · exact lw_ck_ok lw_b1013
      · exact lw_ck_ok lw_b1026
      · exact lw_ck_ok lw_b1063
      · exact lw_ck_ok lw_b1112
      · exact lw_ck_ok lw_b1137
      · exact lw_ck_ok lw_b1174
      · exact lw_ck_ok lw_b1235
      · exact lw_ck_ok lw_b1284
      · exact lw_ck_ok lw_b1345
      · exact lw_ck_ok lw_b1382
      · exact lw_ck_ok lw_b1419
      · exact lw_ck_ok lw_b1456
      · exact lw_ck_ok lw_b1505
      · exact lw_ck_ok lw_b1554
      · exact lw_ck_ok lw_b1603
      · exact lw_ck_ok lw_b1652
      · exact lw_ck_ok lw_b1701
      · exact lw_ck_ok lw_b1750
      · exact lw_ck_ok lw_b1799
      · exact lw_ck_ok lw_b1824
      · exact lw_ck_ok lw_b1849
      · exact lw_ck_ok lw_b1862
      · exact lw_ck_ok lw_b1887
      · exact lw_ck_ok lw_b1924
      · exact lw_ck_ok lw_b1937
      · exact lw_ck_ok lw_b1962
      · exact lw_ck_ok lw_b1975
      · exact lw_ck_ok lw_b1988
      · exact lw_ck_ok lw_b2013
      · exact lw_ck_ok lw_b2019
    · have e0 : pz_bk bl_Lw_law pc = [] := pz_bk_none hm
      rw [e0]
      trivial
/-- CatCourtLaw.cat, where nothing is thrown -/
def bl_Lw_cat : List (Nat × List pz_E) := [(0, [(.aload_n 3, 1, 3, 0, 0, 0, 0), (.iconst 0, 1, 0, 0, 0, 0, 0), (.aload_n 0, 1, 0, 0, 0, 0, 0), (.iload_n 1, 1, 1, 0, 0, 0, 0), (.iload_n 2, 1, 2, 0, 0, 0, 0), (.invokevirtual 7, 3, 177, 2, 0, 0, 10), (.i2l, 1, 0, 0, 0, 0, 0), (.lastore, 1, 0, 0, 0, 0, 0), (.goto 7, 3, 17, 0, 0, 0, 0)]), (13, [(.astore 4, 2, 4, 0, 0, 0, 0), (.iconst 1, 1, 0, 0, 0, 0, 1), (.ireturn, 1, 0, 0, 0, 0, 0)]), (17, [(.iconst 0, 1, 0, 0, 0, 0, 0), (.ireturn, 1, 0, 0, 0, 0, 0)])]
def lc_ck (pc : Nat) (su : List pz_E) : Bool := pz_ckL pz_t_gf pz_t_pf pz_t_pfi pz_t_ki pz_t_kl pz_t_gs pz_t_nw pz_t_an pz_t_iv pz_t_is pz_t_ii pz_t_mt pz_t_oc pz_t_oo pz_t_mu 12 false 0 method_3_code pc su
theorem lc_ck_ok {SP : Nat → Prop} {su : List pz_E} {pc : Nat} (h : lc_ck pc su = true) : pz_okL pz_mi SP "CatCourtLaw" "cat" method_3_code (some .int) pc su := pz_ckL_ok (ow := 12) (ini := false) (cc := method_3_code) (own := "CatCourtLaw") (mnm := "cat") (rt := some .int) pz_tok_ok rfl (fun h => by cases h) SP su pc h
theorem lc_okl (pc : Nat) : pz_okL pz_mi (fun _ => False) "CatCourtLaw" "cat" method_3_code (some .int) pc (pz_bk bl_Lw_cat pc) := by
  refine pz_lookup (P := fun pc su => pz_okL pz_mi (fun _ => False) "CatCourtLaw" "cat" method_3_code (some .int) pc su) (fun _ => trivial) (fun q hq => ?_) pc
  rcases List.mem_cons.mp hq with rfl | hq
  · show pz_okL pz_mi (fun _ => False) "CatCourtLaw" "cat" method_3_code (some .int) 0 ([(.aload_n 3, 1, 3, 0, 0, 0, 0), (.iconst 0, 1, 0, 0, 0, 0, 0), (.aload_n 0, 1, 0, 0, 0, 0, 0), (.iload_n 1, 1, 1, 0, 0, 0, 0), (.iload_n 2, 1, 2, 0, 0, 0, 0)] ++ ((.invokevirtual 7, 3, 177, 2, 0, 0, 10) :: [(.i2l, 1, 0, 0, 0, 0, 0), (.lastore, 1, 0, 0, 0, 0, 0), (.goto 7, 3, 17, 0, 0, 0, 0)]))
    refine okL_app _ _ (lc_ck_ok (by decide +kernel)) ⟨⟨by decide +kernel, rfl, I_CC_cat, rfl, oI_CC_cat, rfl, rfl, rfl, lw_g_at 1000 (by decide +kernel) rfl, lw_g_at 1001 (by decide +kernel) rfl, lw_g_at 999 (by decide +kernel) rfl, _, rfl, rfl⟩, lc_ck_ok (by decide +kernel)⟩
  · rcases List.mem_cons.mp hq with rfl | hq
    · exact lc_ck_ok (by decide +kernel)
    · rcases List.mem_cons.mp hq with rfl | hq
      · exact lc_ck_ok (by decide +kernel)
      · cases hq
end P9n
