theorem jm_ok_of {m pc : Nat} {i : jm_I} (h : g_code m pc = some i) : jm_ok m pc i = true := sorry
theorem jm_code_lt {m pc : Nat} {i : jm_I} (h : g_code m pc = some i) : m < 278 ∧ pc < 16 * (jm_rows m).length := sorry
