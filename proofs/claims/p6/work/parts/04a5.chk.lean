theorem jm_chk_220 : jm_chkr 220 8 = true := by decide +kernel
theorem jm_chk_228 : jm_chkr 228 7 = true := by decide +kernel
theorem jm_chk_235 : jm_chkr 235 7 = true := by decide +kernel
theorem jm_chk_242 : jm_chkr 242 7 = true := by decide +kernel
theorem jm_chk_249 : jm_chkr 249 8 = true := by decide +kernel
theorem jm_chk_257 : jm_chkr 257 3 = true := by decide +kernel
theorem jm_chk_260 : jm_chkr 260 1 = true := by decide +kernel
theorem jm_chk_261 : jm_chkr 261 3 = true := by decide +kernel
