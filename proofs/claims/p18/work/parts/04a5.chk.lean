theorem jm_chk_219 : jm_chkr 219 8 = true := by decide +kernel
theorem jm_chk_227 : jm_chkr 227 7 = true := by decide +kernel
theorem jm_chk_234 : jm_chkr 234 7 = true := by decide +kernel
theorem jm_chk_241 : jm_chkr 241 7 = true := by decide +kernel
theorem jm_chk_248 : jm_chkr 248 8 = true := by decide +kernel
theorem jm_chk_256 : jm_chkr 256 3 = true := by decide +kernel
theorem jm_chk_259 : jm_chkr 259 1 = true := by decide +kernel
theorem jm_chk_260 : jm_chkr 260 3 = true := by decide +kernel
