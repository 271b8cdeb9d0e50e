theorem jm_chkr_at {a n m : Nat} (h : jm_chkr a n = true) (h1 : a ≤ m) (h2 : m < a + n) : jm_chk m = true := by
  have := List.all_eq_true.mp h (m - a) (List.mem_range.mpr (by omega))
  rwa [show a + (m - a) = m by omega] at this
theorem jm_chk_of {m : Nat} (h : m < 278) : jm_chk m = true := by
  by_cases h_0 : m < 11
  · exact jm_chkr_at jm_chk_0 (by omega) (by omega)
  by_cases h_11 : m < 21
  · exact jm_chkr_at jm_chk_11 (by omega) (by omega)
  by_cases h_21 : m < 29
  · exact jm_chkr_at jm_chk_21 (by omega) (by omega)
  by_cases h_29 : m < 36
  · exact jm_chkr_at jm_chk_29 (by omega) (by omega)
  by_cases h_36 : m < 46
  · exact jm_chkr_at jm_chk_36 (by omega) (by omega)
  by_cases h_46 : m < 53
  · exact jm_chkr_at jm_chk_46 (by omega) (by omega)
  by_cases h_53 : m < 64
  · exact jm_chkr_at jm_chk_53 (by omega) (by omega)
  by_cases h_64 : m < 70
  · exact jm_chkr_at jm_chk_64 (by omega) (by omega)
  by_cases h_70 : m < 78
  · exact jm_chkr_at jm_chk_70 (by omega) (by omega)
  by_cases h_78 : m < 89
  · exact jm_chkr_at jm_chk_78 (by omega) (by omega)
  by_cases h_89 : m < 98
  · exact jm_chkr_at jm_chk_89 (by omega) (by omega)
  by_cases h_98 : m < 109
  · exact jm_chkr_at jm_chk_98 (by omega) (by omega)
  by_cases h_109 : m < 119
  · exact jm_chkr_at jm_chk_109 (by omega) (by omega)
  by_cases h_119 : m < 127
  · exact jm_chkr_at jm_chk_119 (by omega) (by omega)
  by_cases h_127 : m < 132
  · exact jm_chkr_at jm_chk_127 (by omega) (by omega)
  by_cases h_132 : m < 138
  · exact jm_chkr_at jm_chk_132 (by omega) (by omega)
  by_cases h_138 : m < 145
  · exact jm_chkr_at jm_chk_138 (by omega) (by omega)
  by_cases h_145 : m < 150
  · exact jm_chkr_at jm_chk_145 (by omega) (by omega)
  by_cases h_150 : m < 154
  · exact jm_chkr_at jm_chk_150 (by omega) (by omega)
  by_cases h_154 : m < 160
  · exact jm_chkr_at jm_chk_154 (by omega) (by omega)
  by_cases h_160 : m < 169
  · exact jm_chkr_at jm_chk_160 (by omega) (by omega)
  by_cases h_169 : m < 173
  · exact jm_chkr_at jm_chk_169 (by omega) (by omega)
  by_cases h_173 : m < 176
  · exact jm_chkr_at jm_chk_173 (by omega) (by omega)
  by_cases h_176 : m < 180
  · exact jm_chkr_at jm_chk_176 (by omega) (by omega)
  by_cases h_180 : m < 189
  · exact jm_chkr_at jm_chk_180 (by omega) (by omega)
  by_cases h_189 : m < 195
  · exact jm_chkr_at jm_chk_189 (by omega) (by omega)
  by_cases h_195 : m < 202
  · exact jm_chkr_at jm_chk_195 (by omega) (by omega)
  by_cases h_202 : m < 212
  · exact jm_chkr_at jm_chk_202 (by omega) (by omega)
  by_cases h_212 : m < 220
  · exact jm_chkr_at jm_chk_212 (by omega) (by omega)
  by_cases h_220 : m < 228
  · exact jm_chkr_at jm_chk_220 (by omega) (by omega)
  by_cases h_228 : m < 235
  · exact jm_chkr_at jm_chk_228 (by omega) (by omega)
  by_cases h_235 : m < 242
  · exact jm_chkr_at jm_chk_235 (by omega) (by omega)
  by_cases h_242 : m < 249
  · exact jm_chkr_at jm_chk_242 (by omega) (by omega)
  by_cases h_249 : m < 257
  · exact jm_chkr_at jm_chk_249 (by omega) (by omega)
  by_cases h_257 : m < 260
  · exact jm_chkr_at jm_chk_257 (by omega) (by omega)
  by_cases h_260 : m < 261
  · exact jm_chkr_at jm_chk_260 (by omega) (by omega)
  by_cases h_261 : m < 264
  · exact jm_chkr_at jm_chk_261 (by omega) (by omega)
  by_cases h_264 : m < 268
  · exact jm_chkr_at jm_chk_264 (by omega) (by omega)
  by_cases h_268 : m < 270
  · exact jm_chkr_at jm_chk_268 (by omega) (by omega)
  by_cases h_270 : m < 273
  · exact jm_chkr_at jm_chk_270 (by omega) (by omega)
  by_cases h_273 : m < 277
  · exact jm_chkr_at jm_chk_273 (by omega) (by omega)
  exact jm_chkr_at jm_chk_277 (by omega) (by omega)
theorem jm_gd {α : Type} {l : List α} {n : Nat} {d : α} (h : l.length ≤ n) : l.getD n d = d := by
  rw [List.getD_eq_getElem?_getD, List.getElem?_eq_none h]; rfl
theorem jm_code_lt {m pc : Nat} {i : jm_I} (h : g_code m pc = some i) : m < 278 ∧ pc < 16 * (jm_rows m).length := by
  have hpc : pc / 16 < (jm_rows m).length := by
    apply Nat.not_le.mp
    intro hle
    rw [g_code_e] at h
    rw [show (g_codes.getD (m / 16) []).getD (m % 16) [] = jm_rows m from rfl, jm_gd hle] at h
    simp at h
  refine ⟨?_, by omega⟩
  apply Nat.not_le.mp
  intro hle
  have h1 : jm_rows m = [] := by
    unfold jm_rows
    by_cases h2 : m < 288
    · have h3 : m / 16 = 17 := by omega
      have h4 : 6 ≤ m % 16 := by omega
      rw [h3]
      exact jm_gd h4
    · rw [jm_gd (n := m / 16) (l := g_codes) (show g_codes.length ≤ m / 16 from by show 18 ≤ m / 16; omega)]
      rfl
  rw [h1] at hpc
  simp at hpc
theorem jm_ok_of {m pc : Nat} {i : jm_I} (h : g_code m pc = some i) : jm_ok m pc i = true := by
  obtain ⟨h1, h2⟩ := jm_code_lt h
  have h3 := List.all_eq_true.mp (jm_chk_of h1) pc (List.mem_range.mpr h2)
  rw [h] at h3
  exact h3
