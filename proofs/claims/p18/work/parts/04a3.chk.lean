theorem jm_chk_127 : jm_chkr 127 5 = true := by decide +kernel
theorem jm_chk_132 : jm_chkr 132 6 = true := by decide +kernel
theorem jm_chk_138 : jm_chkr 138 7 = true := by decide +kernel
theorem jm_chk_145 : jm_chkr 145 5 = true := by decide +kernel
theorem jm_chk_150 : jm_chkr 150 4 = true := by decide +kernel
theorem jm_chk_154 : jm_chkr 154 6 = true := by decide +kernel
theorem jm_chk_160 : jm_chkr 160 8 = true := by decide +kernel
theorem jm_chk_168 : jm_chkr 168 4 = true := by decide +kernel
