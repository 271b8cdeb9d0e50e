theorem jm_chk_172 : jm_chkr 172 3 = true := by decide +kernel
theorem jm_chk_175 : jm_chkr 175 4 = true := by decide +kernel
theorem jm_chk_179 : jm_chkr 179 9 = true := by decide +kernel
theorem jm_chk_188 : jm_chkr 188 6 = true := by decide +kernel
theorem jm_chk_194 : jm_chkr 194 7 = true := by decide +kernel
theorem jm_chk_201 : jm_chkr 201 10 = true := by decide +kernel
theorem jm_chk_211 : jm_chkr 211 8 = true := by decide +kernel
