/-! THE LAW'S OWN CODE, 4 -/
theorem lw_b1701 : lw_ck 1701 (pz_bk bl_Lw_law 1701) = true := by decide +kernel
theorem lw_b1750 : lw_ck 1750 (pz_bk bl_Lw_law 1750) = true := by decide +kernel
theorem lw_b1799 : lw_ck 1799 (pz_bk bl_Lw_law 1799) = true := by decide +kernel
theorem lw_b1824 : lw_ck 1824 (pz_bk bl_Lw_law 1824) = true := by decide +kernel
theorem lw_b1849 : lw_ck 1849 (pz_bk bl_Lw_law 1849) = true := by decide +kernel
theorem lw_b1862 : lw_ck 1862 (pz_bk bl_Lw_law 1862) = true := by decide +kernel
theorem lw_b1887 : lw_ck 1887 (pz_bk bl_Lw_law 1887) = true := by decide +kernel
theorem lw_b1924 : lw_ck 1924 (pz_bk bl_Lw_law 1924) = true := by decide +kernel
theorem lw_b1937 : lw_ck 1937 (pz_bk bl_Lw_law 1937) = true := by decide +kernel
theorem lw_b1962 : lw_ck 1962 (pz_bk bl_Lw_law 1962) = true := by decide +kernel
theorem lw_b1975 : lw_ck 1975 (pz_bk bl_Lw_law 1975) = true := by decide +kernel
theorem lw_b1988 : lw_ck 1988 (pz_bk bl_Lw_law 1988) = true := by decide +kernel
theorem lw_b2013 : lw_ck 2013 (pz_bk bl_Lw_law 2013) = true := by decide +kernel
theorem lw_b2019 : lw_ck 2019 (pz_bk bl_Lw_law 2019) = true := by decide +kernel
