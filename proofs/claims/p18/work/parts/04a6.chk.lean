theorem jm_chk_263 : jm_chkr 263 4 = true := by decide +kernel
theorem jm_chk_267 : jm_chkr 267 2 = true := by decide +kernel
theorem jm_chk_269 : jm_chkr 269 3 = true := by decide +kernel
theorem jm_chk_272 : jm_chkr 272 4 = true := by decide +kernel
theorem jm_chs_276_0 : jm_chks 276 0 96 = true := by decide +kernel
theorem jm_chs_276_96 : jm_chks 276 96 96 = true := by decide +kernel
theorem jm_chs_276_192 : jm_chks 276 192 96 = true := by decide +kernel
theorem jm_chs_276_288 : jm_chks 276 288 96 = true := by decide +kernel
theorem jm_chs_276_384 : jm_chks 276 384 96 = true := by decide +kernel
theorem jm_chs_276_480 : jm_chks 276 480 96 = true := by decide +kernel
theorem jm_chs_276_576 : jm_chks 276 576 96 = true := by decide +kernel
theorem jm_chs_276_672 : jm_chks 276 672 96 = true := by decide +kernel
theorem jm_chs_276_768 : jm_chks 276 768 96 = true := by decide +kernel
theorem jm_chs_276_864 : jm_chks 276 864 96 = true := by decide +kernel
theorem jm_chs_276_960 : jm_chks 276 960 96 = true := by decide +kernel
theorem jm_chs_276_1056 : jm_chks 276 1056 96 = true := by decide +kernel
theorem jm_chs_276_1152 : jm_chks 276 1152 96 = true := by decide +kernel
theorem jm_chs_276_1248 : jm_chks 276 1248 96 = true := by decide +kernel
theorem jm_chk_276 : jm_chkr 276 1 = true := by
  unfold jm_chkr jm_chk
  simp only [List.all_eq_true, List.mem_range]
  intro k hk pc hpc
  have hk : k = 0 := by omega
  subst hk
  have hpc : pc < 1280 := hpc
  by_cases h_0 : pc < 96
  · exact jm_chks_at jm_chs_276_0 (by omega) (by omega)
  by_cases h_96 : pc < 192
  · exact jm_chks_at jm_chs_276_96 (by omega) (by omega)
  by_cases h_192 : pc < 288
  · exact jm_chks_at jm_chs_276_192 (by omega) (by omega)
  by_cases h_288 : pc < 384
  · exact jm_chks_at jm_chs_276_288 (by omega) (by omega)
  by_cases h_384 : pc < 480
  · exact jm_chks_at jm_chs_276_384 (by omega) (by omega)
  by_cases h_480 : pc < 576
  · exact jm_chks_at jm_chs_276_480 (by omega) (by omega)
  by_cases h_576 : pc < 672
  · exact jm_chks_at jm_chs_276_576 (by omega) (by omega)
  by_cases h_672 : pc < 768
  · exact jm_chks_at jm_chs_276_672 (by omega) (by omega)
  by_cases h_768 : pc < 864
  · exact jm_chks_at jm_chs_276_768 (by omega) (by omega)
  by_cases h_864 : pc < 960
  · exact jm_chks_at jm_chs_276_864 (by omega) (by omega)
  by_cases h_960 : pc < 1056
  · exact jm_chks_at jm_chs_276_960 (by omega) (by omega)
  by_cases h_1056 : pc < 1152
  · exact jm_chks_at jm_chs_276_1056 (by omega) (by omega)
  by_cases h_1152 : pc < 1248
  · exact jm_chks_at jm_chs_276_1152 (by omega) (by omega)
  exact jm_chks_at jm_chs_276_1248 (by omega) (by omega)
