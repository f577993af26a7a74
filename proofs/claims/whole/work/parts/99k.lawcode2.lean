/-! THE LAW'S OWN CODE, 2 -/
theorem lw_b751 : lw_ck 751 (pz_bk bl_Lw_law 751) = true := by decide +kernel
theorem lw_b776 : lw_ck 776 (pz_bk bl_Lw_law 776) = true := by decide +kernel
theorem lw_b801 : lw_ck 801 (pz_bk bl_Lw_law 801) = true := by decide +kernel
theorem lw_b826 : lw_ck 826 (pz_bk bl_Lw_law 826) = true := by decide +kernel
theorem lw_b846 : lw_ck 846 (pz_bk bl_Lw_law 846) = true := by decide +kernel
theorem lw_b847 : lw_ck 847 (pz_bk bl_Lw_law 847) = true := by decide +kernel
theorem lw_b870 : lw_ck 870 (pz_bk bl_Lw_law 870) = true := by decide +kernel
theorem lw_b871 : lw_ck 871 (pz_bk bl_Lw_law 871) = true := by decide +kernel
theorem lw_b879 : lw_ck 879 (pz_bk bl_Lw_law 879) = true := by decide +kernel
theorem lw_b899 : lw_ck 899 (pz_bk bl_Lw_law 899) = true := by decide +kernel
theorem lw_b900 : lw_ck 900 (pz_bk bl_Lw_law 900) = true := by decide +kernel
theorem lw_b923 : lw_ck 923 (pz_bk bl_Lw_law 923) = true := by decide +kernel
theorem lw_b924 : lw_ck 924 (pz_bk bl_Lw_law 924) = true := by decide +kernel
theorem lw_b932 : lw_ck 932 (pz_bk bl_Lw_law 932) = true := by decide +kernel
theorem lw_b1013 : lw_ck 1013 (pz_bk bl_Lw_law 1013) = true := by decide +kernel
