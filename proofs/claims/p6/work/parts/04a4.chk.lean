theorem jm_chk_173 : jm_chkr 173 3 = true := by decide +kernel
theorem jm_chk_176 : jm_chkr 176 4 = true := by decide +kernel
theorem jm_chk_180 : jm_chkr 180 9 = true := by decide +kernel
theorem jm_chk_189 : jm_chkr 189 6 = true := by decide +kernel
theorem jm_chk_195 : jm_chkr 195 7 = true := by decide +kernel
theorem jm_chk_202 : jm_chkr 202 10 = true := by decide +kernel
theorem jm_chk_212 : jm_chkr 212 8 = true := by decide +kernel
