theorem jm_chk_64 : jm_chkr 64 6 = true := by decide +kernel
theorem jm_chk_70 : jm_chkr 70 8 = true := by decide +kernel
theorem jm_chk_78 : jm_chkr 78 11 = true := by decide +kernel
theorem jm_chk_89 : jm_chkr 89 9 = true := by decide +kernel
theorem jm_chk_98 : jm_chkr 98 11 = true := by decide +kernel
theorem jm_chk_109 : jm_chkr 109 10 = true := by decide +kernel
theorem jm_chk_119 : jm_chkr 119 8 = true := by decide +kernel
