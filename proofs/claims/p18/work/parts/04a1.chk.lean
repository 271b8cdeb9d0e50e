theorem jm_chk_0 : jm_chkr 0 11 = true := by decide +kernel
theorem jm_chk_11 : jm_chkr 11 10 = true := by decide +kernel
theorem jm_chk_21 : jm_chkr 21 8 = true := by decide +kernel
theorem jm_chk_29 : jm_chkr 29 7 = true := by decide +kernel
theorem jm_chk_36 : jm_chkr 36 10 = true := by decide +kernel
theorem jm_chk_46 : jm_chkr 46 7 = true := by decide +kernel
theorem jm_chk_53 : jm_chkr 53 11 = true := by decide +kernel
