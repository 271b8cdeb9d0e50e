theorem jm_chkr_at {a n m : Nat} (h : jm_chkr a n = true) (h1 : a ≤ m) (h2 : m < a + n) : jm_chk m = true := by
  have := List.all_eq_true.mp h (m - a) (List.mem_range.mpr (by omega))
  rwa [show a + (m - a) = m by omega] at this
theorem jm_chk_of {m : Nat} (h : m < 277) : jm_chk m = true := by
  by_cases h_0 : m < 11
  · exact jm_chkr_at jm_chk_0 (by omega) (by omega)
  by_cases h_11 : m < 21
  · exact jm_chkr_at jm_chk_11 (by omega) (by omega)
  by_cases h_21 : m < 29
  · exact jm_chkr_at jm_chk_21 (by omega) (by omega)
  by_cases h_29 : m < 36
  · exact jm_chkr_at jm_chk_29 (by omega) (by omega)
  by_cases h_36 : m < 46
  · exact jm_chkr_at jm_chk_36 (by omega) (by omega)
  by_cases h_46 : m < 53
  · exact jm_chkr_at jm_chk_46 (by omega) (by omega)
  by_cases h_53 : m < 64
  · exact jm_chkr_at jm_chk_53 (by omega) (by omega)
  by_cases h_64 : m < 70
  · exact jm_chkr_at jm_chk_64 (by omega) (by omega)
  by_cases h_70 : m < 78
  · exact jm_chkr_at jm_chk_70 (by omega) (by omega)
  by_cases h_78 : m < 89
  · exact jm_chkr_at jm_chk_78 (by omega) (by omega)
  by_cases h_89 : m < 98
  · exact jm_chkr_at jm_chk_89 (by omega) (by omega)
  by_cases h_98 : m < 109
  · exact jm_chkr_at jm_chk_98 (by omega) (by omega)
  by_cases h_109 : m < 119
  · exact jm_chkr_at jm_chk_109 (by omega) (by omega)
  by_cases h_119 : m < 127
  · exact jm_chkr_at jm_chk_119 (by omega) (by omega)
  by_cases h_127 : m < 132
  · exact jm_chkr_at jm_chk_127 (by omega) (by omega)
  by_cases h_132 : m < 138
  · exact jm_chkr_at jm_chk_132 (by omega) (by omega)
  by_cases h_138 : m < 145
  · exact jm_chkr_at jm_chk_138 (by omega) (by omega)
  by_cases h_145 : m < 150
  · exact jm_chkr_at jm_chk_145 (by omega) (by omega)
  by_cases h_150 : m < 154
  · exact jm_chkr_at jm_chk_150 (by omega) (by omega)
  by_cases h_154 : m < 160
  · exact jm_chkr_at jm_chk_154 (by omega) (by omega)
  by_cases h_160 : m < 168
  · exact jm_chkr_at jm_chk_160 (by omega) (by omega)
  by_cases h_168 : m < 172
  · exact jm_chkr_at jm_chk_168 (by omega) (by omega)
  by_cases h_172 : m < 175
  · exact jm_chkr_at jm_chk_172 (by omega) (by omega)
  by_cases h_175 : m < 179
  · exact jm_chkr_at jm_chk_175 (by omega) (by omega)
  by_cases h_179 : m < 188
  · exact jm_chkr_at jm_chk_179 (by omega) (by omega)
  by_cases h_188 : m < 194
  · exact jm_chkr_at jm_chk_188 (by omega) (by omega)
  by_cases h_194 : m < 201
  · exact jm_chkr_at jm_chk_194 (by omega) (by omega)
  by_cases h_201 : m < 211
  · exact jm_chkr_at jm_chk_201 (by omega) (by omega)
  by_cases h_211 : m < 219
  · exact jm_chkr_at jm_chk_211 (by omega) (by omega)
  by_cases h_219 : m < 227
  · exact jm_chkr_at jm_chk_219 (by omega) (by omega)
  by_cases h_227 : m < 234
  · exact jm_chkr_at jm_chk_227 (by omega) (by omega)
  by_cases h_234 : m < 241
  · exact jm_chkr_at jm_chk_234 (by omega) (by omega)
  by_cases h_241 : m < 248
  · exact jm_chkr_at jm_chk_241 (by omega) (by omega)
  by_cases h_248 : m < 256
  · exact jm_chkr_at jm_chk_248 (by omega) (by omega)
  by_cases h_256 : m < 259
  · exact jm_chkr_at jm_chk_256 (by omega) (by omega)
  by_cases h_259 : m < 260
  · exact jm_chkr_at jm_chk_259 (by omega) (by omega)
  by_cases h_260 : m < 263
  · exact jm_chkr_at jm_chk_260 (by omega) (by omega)
  by_cases h_263 : m < 267
  · exact jm_chkr_at jm_chk_263 (by omega) (by omega)
  by_cases h_267 : m < 269
  · exact jm_chkr_at jm_chk_267 (by omega) (by omega)
  by_cases h_269 : m < 272
  · exact jm_chkr_at jm_chk_269 (by omega) (by omega)
  by_cases h_272 : m < 276
  · exact jm_chkr_at jm_chk_272 (by omega) (by omega)
  exact jm_chkr_at jm_chk_276 (by omega) (by omega)
theorem jm_gd {α : Type} {l : List α} {n : Nat} {d : α} (h : l.length ≤ n) : l.getD n d = d := by
  rw [List.getD_eq_getElem?_getD, List.getElem?_eq_none h]; rfl
theorem jm_code_lt {m pc : Nat} {i : jm_I} (h : g_code m pc = some i) : m < 277 ∧ pc < 16 * (jm_rows m).length := by
  have hpc : pc / 16 < (jm_rows m).length := by
    apply Nat.not_le.mp
    intro hle
    rw [g_code_e] at h
    rw [show (g_codes.getD (m / 16) []).getD (m % 16) [] = jm_rows m from rfl, jm_gd hle] at h
    simp at h
  refine ⟨?_, by omega⟩
  apply Nat.not_le.mp
  intro hle
  have h1 : jm_rows m = [] := by
    unfold jm_rows
    by_cases h2 : m < 288
    · have h3 : m / 16 = 17 := by omega
      have h4 : 5 ≤ m % 16 := by omega
      rw [h3]
      exact jm_gd h4
    · rw [jm_gd (n := m / 16) (l := g_codes) (show g_codes.length ≤ m / 16 from by show 18 ≤ m / 16; omega)]
      rfl
  rw [h1] at hpc
  simp at hpc
theorem jm_ok_of {m pc : Nat} {i : jm_I} (h : g_code m pc = some i) : jm_ok m pc i = true := by
  obtain ⟨h1, h2⟩ := jm_code_lt h
  have h3 := List.all_eq_true.mp (jm_chk_of h1) pc (List.mem_range.mpr h2)
  rw [h] at h3
  exact h3
