theorem jm_chk_264 : jm_chkr 264 4 = true := by decide +kernel
theorem jm_chk_268 : jm_chkr 268 2 = true := by decide +kernel
theorem jm_chk_270 : jm_chkr 270 3 = true := by decide +kernel
theorem jm_chk_273 : jm_chkr 273 4 = true := by decide +kernel
theorem jm_chs_277_0 : jm_chks 277 0 96 = true := by decide +kernel
theorem jm_chs_277_96 : jm_chks 277 96 96 = true := by decide +kernel
theorem jm_chs_277_192 : jm_chks 277 192 96 = true := by decide +kernel
theorem jm_chs_277_288 : jm_chks 277 288 96 = true := by decide +kernel
theorem jm_chs_277_384 : jm_chks 277 384 96 = true := by decide +kernel
theorem jm_chs_277_480 : jm_chks 277 480 96 = true := by decide +kernel
theorem jm_chs_277_576 : jm_chks 277 576 96 = true := by decide +kernel
theorem jm_chs_277_672 : jm_chks 277 672 96 = true := by decide +kernel
theorem jm_chs_277_768 : jm_chks 277 768 96 = true := by decide +kernel
theorem jm_chs_277_864 : jm_chks 277 864 96 = true := by decide +kernel
theorem jm_chs_277_960 : jm_chks 277 960 96 = true := by decide +kernel
theorem jm_chs_277_1056 : jm_chks 277 1056 96 = true := by decide +kernel
theorem jm_chs_277_1152 : jm_chks 277 1152 96 = true := by decide +kernel
theorem jm_chs_277_1248 : jm_chks 277 1248 96 = true := by decide +kernel
theorem jm_chk_277 : jm_chkr 277 1 = true := by
  unfold jm_chkr jm_chk
  simp only [List.all_eq_true, List.mem_range]
  intro k hk pc hpc
  have hk : k = 0 := by omega
  subst hk
  have hpc : pc < 1312 := hpc
  by_cases h_0 : pc < 96
  · exact jm_chks_at jm_chs_277_0 (by omega) (by omega)
  by_cases h_96 : pc < 192
  · exact jm_chks_at jm_chs_277_96 (by omega) (by omega)
  by_cases h_192 : pc < 288
  · exact jm_chks_at jm_chs_277_192 (by omega) (by omega)
  by_cases h_288 : pc < 384
  · exact jm_chks_at jm_chs_277_288 (by omega) (by omega)
  by_cases h_384 : pc < 480
  · exact jm_chks_at jm_chs_277_384 (by omega) (by omega)
  by_cases h_480 : pc < 576
  · exact jm_chks_at jm_chs_277_480 (by omega) (by omega)
  by_cases h_576 : pc < 672
  · exact jm_chks_at jm_chs_277_576 (by omega) (by omega)
  by_cases h_672 : pc < 768
  · exact jm_chks_at jm_chs_277_672 (by omega) (by omega)
  by_cases h_768 : pc < 864
  · exact jm_chks_at jm_chs_277_768 (by omega) (by omega)
  by_cases h_864 : pc < 960
  · exact jm_chks_at jm_chs_277_864 (by omega) (by omega)
  by_cases h_960 : pc < 1056
  · exact jm_chks_at jm_chs_277_960 (by omega) (by omega)
  by_cases h_1056 : pc < 1152
  · exact jm_chks_at jm_chs_277_1056 (by omega) (by omega)
  by_cases h_1152 : pc < 1248
  · exact jm_chks_at jm_chs_277_1152 (by omega) (by omega)
  exact jm_chks_at jm_chs_277_1248 (by omega) (by omega)
