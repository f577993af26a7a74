section LC1
variable {d dd : Nat} {M : pz_M} {ss : List (Nat × Nat)} {p0 p1 o : Int}
theorem lc_run {v : Int} {Z : pz_X} (hc : pz_cal d 177 [(2, 0), (0, p0), (0, p1)] ((pz_SH, ss, 0, 0, dd), M) = some (some (0, v), Z)) (hs : pz_sh Z o = some (101, 1)) (ho : o < 4096) :
    pz_go pz_tf (pz_cal d) (pz_bk bl_Lw_cat) 1 6 0 [] [(2, 0), (0, p0), (0, p1), (2, o), (9, 0)] [] ((pz_SH, ss, 0, 0, dd), M) = some (some (0, 0), ((Z.1.1, ss, 0, 0, Z.1.2.2.2.2), pz_up Z.2 o.toNat 0 v)) := by
  have b0 : pz_bk bl_Lw_cat 0 = [(.aload_n 3, 1, 3, 0, 0, 0, 0), (.iconst 0, 1, 0, 0, 0, 0, 0), (.aload_n 0, 1, 0, 0, 0, 0, 0), (.iload_n 1, 1, 1, 0, 0, 0, 0), (.iload_n 2, 1, 2, 0, 0, 0, 0), (.invokevirtual 7, 3, 177, 2, 0, 0, 10), (.i2l, 1, 0, 0, 0, 0, 0), (.lastore, 1, 0, 0, 0, 0, 0), (.goto 7, 3, 17, 0, 0, 0, 0)] := rfl
  have b17 : pz_bk bl_Lw_cat 17 = [(.iconst 0, 1, 0, 0, 0, 0, 0), (.ireturn, 1, 0, 0, 0, 0, 0)] := rfl
  have g0 : pz_sh ((pz_SH, ss, 0, 0, dd), M) 0 = some (10, 17) := h_0
  have hs' : pz_sh ((Z.1.1, ss, 0, 0, Z.1.2.2.2.2), Z.2) o = some (101, 1) := by
    unfold pz_sh at hs ⊢
    rw [if_pos ho] at hs
    split at hs
    · cases hs
    · rw [if_neg (by assumption), if_pos ho]
      exact hs
  have o0 : 0 ≤ o := by
    unfold pz_sh at hs
    split at hs
    · cases hs
    · omega
  rw [pz_go_nil, b0]
  simp [pz_go_cons, pz_go_nil, b17, pz_af, pz_stp, pz_ld, pz_nx, pz_r1, pz_gf, g0, pz_cl, pz_wt, pz_z, hc, pz_b, pz_u1, pz_u2, pz_jp, pz_av, pz_as, hs', ho, o0, pz_rt]
theorem lc_to5 : ∃ k, pz_rn pz_tf (pz_cal d) (pz_bk bl_Lw_cat) 1 6 k 0 [] [(2, 0), (0, p0), (0, p1), (2, o), (9, 0)] [] ((pz_SH, ss, 0, 0, dd), M) = some (5, [(2, 0), (0, p0), (0, p1), (2, o), (9, 0)], [(0, p1), (0, p0), (2, 0), (0, 0), (2, o)], ((pz_SH, ss, 0, 0, dd), M)) := by
  have b0 : pz_bk bl_Lw_cat 0 = [(.aload_n 3, 1, 3, 0, 0, 0, 0), (.iconst 0, 1, 0, 0, 0, 0, 0), (.aload_n 0, 1, 0, 0, 0, 0, 0), (.iload_n 1, 1, 1, 0, 0, 0, 0), (.iload_n 2, 1, 2, 0, 0, 0, 0), (.invokevirtual 7, 3, 177, 2, 0, 0, 10), (.i2l, 1, 0, 0, 0, 0, 0), (.lastore, 1, 0, 0, 0, 0, 0), (.goto 7, 3, 17, 0, 0, 0, 0)] := rfl
  refine ⟨6, ?_⟩
  simp [pz_rn, b0, pz_stp, pz_ld, pz_nx]
end LC1
