/-! THE LAW'S OWN CODE, 3 -/
theorem lw_b1026 : lw_ck 1026 (pz_bk bl_Lw_law 1026) = true := by decide +kernel
theorem lw_b1063 : lw_ck 1063 (pz_bk bl_Lw_law 1063) = true := by decide +kernel
theorem lw_b1112 : lw_ck 1112 (pz_bk bl_Lw_law 1112) = true := by decide +kernel
theorem lw_b1137 : lw_ck 1137 (pz_bk bl_Lw_law 1137) = true := by decide +kernel
theorem lw_b1174 : lw_ck 1174 (pz_bk bl_Lw_law 1174) = true := by decide +kernel
theorem lw_b1235 : lw_ck 1235 (pz_bk bl_Lw_law 1235) = true := by decide +kernel
theorem lw_b1284 : lw_ck 1284 (pz_bk bl_Lw_law 1284) = true := by decide +kernel
theorem lw_b1345 : lw_ck 1345 (pz_bk bl_Lw_law 1345) = true := by decide +kernel
theorem lw_b1382 : lw_ck 1382 (pz_bk bl_Lw_law 1382) = true := by decide +kernel
theorem lw_b1419 : lw_ck 1419 (pz_bk bl_Lw_law 1419) = true := by decide +kernel
theorem lw_b1456 : lw_ck 1456 (pz_bk bl_Lw_law 1456) = true := by decide +kernel
theorem lw_b1505 : lw_ck 1505 (pz_bk bl_Lw_law 1505) = true := by decide +kernel
theorem lw_b1554 : lw_ck 1554 (pz_bk bl_Lw_law 1554) = true := by decide +kernel
theorem lw_b1603 : lw_ck 1603 (pz_bk bl_Lw_law 1603) = true := by decide +kernel
theorem lw_b1652 : lw_ck 1652 (pz_bk bl_Lw_law 1652) = true := by decide +kernel
