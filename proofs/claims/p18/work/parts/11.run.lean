/-! runs: more fuel, other scripts, rules -/
section
variable {sc sc' : List Int} {n dd m pc : Nat} {L : jm_L} {S : List jm_V} {h h' : jm_H} {r : Option jm_V}
theorem jm_mk_ret {i : jm_I} (hc : g_code m pc = some i) (h40 : i.1 = 40) (hr : jm_ret i S h = some (r, h')) : jm_exec sc (n + 1) dd m pc L S h = some (r, h') := by
  unfold jm_exec
  rw [hc]
  dsimp only
  rw [if_pos h40]
  exact hr
theorem jm_mk_thr {i : jm_I} (hc : g_code m pc = some i) (h41 : i.1 = 41) (hd : 10 ≤ dd) (hS : jm_cat S ≤ 8) : jm_exec sc (n + 1) dd m pc L S h = some (some (9, 0), (h.1, h.2 + 1)) := by
  unfold jm_exec
  rw [hc]
  dsimp only
  rw [if_neg (by omega), if_pos h41, if_pos ⟨hd, hS⟩]
theorem jm_mk_stp {i : jm_I} {pc' : Nat} {L' : jm_L} {S' : List jm_V} {h1 : jm_H} (hc : g_code m pc = some i) (h40 : ¬ i.1 = 40) (h30 : ¬ (i.1 = 30 ∨ i.1 = 31 ∨ i.1 = 32)) (hs : jm_stp sc i pc L S h = some (pc', L', S', h1)) (hx : jm_exec sc n dd m pc' L' S' h1 = some (r, h')) : jm_exec sc (n + 1) dd m pc L S h = some (r, h') := by
  have h41 : ¬ i.1 = 41 := fun q => by
    obtain ⟨op, a, b, d⟩ := i
    dsimp only at q
    subst q
    cases hs
  unfold jm_exec
  rw [hc]
  dsimp only
  rw [if_neg h40, if_neg h41, if_neg h30, hs]
  exact hx
theorem jm_mk_call {i : jm_I} {d' : Nat} {r1 : Option jm_V} {h1 : jm_H} (hc : g_code m pc = some i) (h30 : i.1 = 30 ∨ i.1 = 31 ∨ i.1 = 32) (hcc : jm_cc m pc i S h) (hx : jm_exec sc n d' i.2.2.1 0 (jm_args 0 (S.take i.2.2.2).reverse) [] h = some (r1, h1)) (hr1 : ¬ r1 = some (9, 0)) (hy : jm_exec sc n (d' + 1) m (pc + 3) L (r1.toList ++ S.drop i.2.2.2) h1 = some (r, h')) : jm_exec sc (n + 1) (d' + 1) m pc L S h = some (r, h') := by
  have hcc' : (i.2.2.2 ≤ S.length ∧ jm_cat (S.drop i.2.2.2) ≤ 8 ∧ jm_cat (S.take i.2.2.2) ≤ (g_m i.2.2.1).2.2.1 ∧ jm_rcv (if i.1 = 31 then 10 + ((g_lnk m pc).getD 5 0 : Int) else i.2.1) (S.take i.2.2.2).reverse h = true) := hcc
  unfold jm_exec
  rw [hc]
  dsimp only
  rw [if_neg (by omega), if_neg (by omega), if_pos h30, if_pos hcc', hx]
  dsimp only
  rw [if_neg hr1]
  exact hy
theorem jm_mk_try {i : jm_I} {d' : Nat} {h1 : jm_H} (hc : g_code m pc = some i) (h31 : i.1 = 31) (hcc : jm_cc m pc i S h) (hx : jm_exec sc n d' i.2.2.1 0 (jm_args 0 (S.take i.2.2.2).reverse) [] h = some (some (9, 0), h1)) (hy : jm_exec sc n (d' + 1) m i.2.1.toNat (jm_drop L ((g_lnk m pc).getD 6 0)) [] h1 = some (r, h')) : jm_exec sc (n + 1) (d' + 1) m pc L S h = some (r, h') := by
  have hcc' : (i.2.2.2 ≤ S.length ∧ jm_cat (S.drop i.2.2.2) ≤ 8 ∧ jm_cat (S.take i.2.2.2) ≤ (g_m i.2.2.1).2.2.1 ∧ jm_rcv (if i.1 = 31 then 10 + ((g_lnk m pc).getD 5 0 : Int) else i.2.1) (S.take i.2.2.2).reverse h = true) := hcc
  unfold jm_exec
  rw [hc]
  dsimp only
  rw [if_neg (by omega), if_neg (by omega), if_pos (by omega), if_pos hcc', hx]
  dsimp only
  rw [if_pos rfl, if_pos h31]
  exact hy
end
theorem jm_exec_up {sc : List Int} : ∀ (n : Nat) {dd m pc : Nat} {L : jm_L} {S : List jm_V} {h h' : jm_H} {r : Option jm_V}, jm_exec sc n dd m pc L S h = some (r, h') → ∀ n', n ≤ n' → jm_exec sc n' dd m pc L S h = some (r, h')
  | 0, dd, m, pc, L, S, h, h', r, hex, n', hn => by cases hex
  | n + 1, dd, m, pc, L, S, h, h', r, hex, n', hn => by
    obtain ⟨k, rfl⟩ : ∃ k, n' = k + 1 := ⟨n' - 1, by omega⟩
    have hk : n ≤ k := by omega
    obtain ⟨i, hc, hcase⟩ := jm_exec_inv hex
    rcases hcase with ⟨h40, hr⟩ | ⟨h41, hd, hS, rfl, rfl⟩ | ⟨h30, d', r1, h1, rfl, hcc, hx, hy⟩ | ⟨h40, h30, pc', L', S', h1, hs, hx⟩
    · exact jm_mk_ret hc h40 hr
    · exact jm_mk_thr hc h41 hd hS
    · rcases hy with ⟨rfl, h31, hy⟩ | ⟨hr1, hy⟩
      · exact jm_mk_try hc h31 hcc (jm_exec_up n hx k hk) (jm_exec_up n hy k hk)
      · exact jm_mk_call hc h30 hcc (jm_exec_up n hx k hk) hr1 (jm_exec_up n hy k hk)
    · exact jm_mk_stp hc h40 h30 hs (jm_exec_up n hx k hk)
/-- only the law itself reads the script -/
noncomputable def jm_scok : Bool := (List.range 276).all (fun m => (List.range (16 * (jm_rows m).length)).all (fun pc => match g_code m pc with | some i => !(decide (i.1 = 22) && (decide (i.2.2.1 = 1) || decide (i.2.2.1 = 2))) && (!(decide (i.1 = 30) || decide (i.1 = 31) || decide (i.1 = 32)) || decide (i.2.2.1 < 276)) | none => true))
theorem jm_scok_t : jm_scok = true := by decide +kernel
theorem jm_stp_sc {sc sc' : List Int} {i : jm_I} {pc : Nat} {L : jm_L} {S : List jm_V} {h : jm_H} (hi : ¬ (i.1 = 22 ∧ (i.2.2.1 = 1 ∨ i.2.2.1 = 2))) : jm_stp sc i pc L S h = jm_stp sc' i pc L S h := by
  obtain ⟨op, a, b, d⟩ := i
  unfold jm_stp
  dsimp only at hi ⊢
  split <;> try rfl
  unfold jm_spec
  dsimp only
  split <;> first | rfl | exact absurd ⟨rfl, Or.inl rfl⟩ hi | exact absurd ⟨rfl, Or.inr rfl⟩ hi
theorem jm_exec_sc {sc : List Int} (sc' : List Int) : ∀ (n : Nat) {dd m pc : Nat} {L : jm_L} {S : List jm_V} {h h' : jm_H} {r : Option jm_V}, m < 276 → jm_exec sc n dd m pc L S h = some (r, h') → jm_exec sc' n dd m pc L S h = some (r, h')
  | 0, dd, m, pc, L, S, h, h', r, hm, hex => by cases hex
  | n + 1, dd, m, pc, L, S, h, h', r, hm, hex => by
    obtain ⟨i, hc, hcase⟩ := jm_exec_inv hex
    obtain ⟨-, hpc⟩ := jm_code_lt hc
    have hok := List.all_eq_true.mp (List.all_eq_true.mp jm_scok_t m (List.mem_range.mpr hm)) pc (List.mem_range.mpr hpc)
    rw [hc] at hok
    simp only [Bool.and_eq_true, Bool.not_eq_true', Bool.and_eq_false_iff, Bool.or_eq_false_iff, decide_eq_false_iff_not, Bool.or_eq_true, decide_eq_true_eq] at hok
    rcases hcase with ⟨h40, hr⟩ | ⟨h41, hd, hS, rfl, rfl⟩ | ⟨h30, d', r1, h1, rfl, hcc, hx, hy⟩ | ⟨h40, h30, pc', L', S', h1, hs, hx⟩
    · exact jm_mk_ret hc h40 hr
    · exact jm_mk_thr hc h41 hd hS
    · have hb : i.2.2.1 < 276 := by
        rcases hok.2 with q | q
        · omega
        · exact q
      rcases hy with ⟨rfl, h31, hy⟩ | ⟨hr1, hy⟩
      · exact jm_mk_try hc h31 hcc (jm_exec_sc sc' n hb hx) (jm_exec_sc sc' n hm hy)
      · exact jm_mk_call hc h30 hcc (jm_exec_sc sc' n hb hx) hr1 (jm_exec_sc sc' n hm hy)
    · refine jm_mk_stp hc h40 h30 ?_ (jm_exec_sc sc' n hm hx)
      rw [jm_stp_sc (sc' := sc)]
      · exact hs
      · intro q
        rcases hok.1 with q2 | q2
        · exact q2 q.1
        · rcases q.2 with q3 | q3
          · exact q2.1 q3
          · exact q2.2 q3
/-- a run, with fuel enough -/
noncomputable def jm_R (sc : List Int) (d m pc : Nat) (L : jm_L) (S : List jm_V) (h : jm_H) (r : Option jm_V) (h' : jm_H) : Prop := ∃ n, jm_exec sc n d m pc L S h = some (r, h')
section
variable {sc sc' : List Int} {dd m pc : Nat} {L : jm_L} {S : List jm_V} {h h' : jm_H} {r : Option jm_V}
theorem jm_R_ret {i : jm_I} (hc : g_code m pc = some i) (h40 : i.1 = 40) (hr : jm_ret i S h = some (r, h')) : jm_R sc dd m pc L S h r h' := ⟨1, jm_mk_ret hc h40 hr⟩
theorem jm_R_stp {i : jm_I} {pc' : Nat} {L' : jm_L} {S' : List jm_V} {h1 : jm_H} (hc : g_code m pc = some i) (h40 : ¬ i.1 = 40) (h30 : ¬ (i.1 = 30 ∨ i.1 = 31 ∨ i.1 = 32)) (hs : jm_stp sc i pc L S h = some (pc', L', S', h1)) (hx : jm_R sc dd m pc' L' S' h1 r h') : jm_R sc dd m pc L S h r h' := by
  obtain ⟨n, hx⟩ := hx
  exact ⟨n + 1, jm_mk_stp hc h40 h30 hs hx⟩
theorem jm_R_call {i : jm_I} {d' : Nat} {r1 : Option jm_V} {h1 : jm_H} (hc : g_code m pc = some i) (h30 : i.1 = 30 ∨ i.1 = 31 ∨ i.1 = 32) (hcc : jm_cc m pc i S h) (hx : jm_R sc d' i.2.2.1 0 (jm_args 0 (S.take i.2.2.2).reverse) [] h r1 h1) (hr1 : ¬ r1 = some (9, 0)) (hy : jm_R sc (d' + 1) m (pc + 3) L (r1.toList ++ S.drop i.2.2.2) h1 r h') : jm_R sc (d' + 1) m pc L S h r h' := by
  obtain ⟨n, hx⟩ := hx
  obtain ⟨k, hy⟩ := hy
  exact ⟨max n k + 1, jm_mk_call hc h30 hcc (jm_exec_up n hx _ (Nat.le_max_left _ _)) hr1 (jm_exec_up k hy _ (Nat.le_max_right _ _))⟩
theorem jm_R_try {i : jm_I} {d' : Nat} {h1 : jm_H} (hc : g_code m pc = some i) (h31 : i.1 = 31) (hcc : jm_cc m pc i S h) (hx : jm_R sc d' i.2.2.1 0 (jm_args 0 (S.take i.2.2.2).reverse) [] h (some (9, 0)) h1) (hy : jm_R sc (d' + 1) m i.2.1.toNat (jm_drop L ((g_lnk m pc).getD 6 0)) [] h1 r h') : jm_R sc (d' + 1) m pc L S h r h' := by
  obtain ⟨n, hx⟩ := hx
  obtain ⟨k, hy⟩ := hy
  exact ⟨max n k + 1, jm_mk_try hc h31 hcc (jm_exec_up n hx _ (Nat.le_max_left _ _)) (jm_exec_up k hy _ (Nat.le_max_right _ _))⟩
theorem jm_R_thr {i : jm_I} (hc : g_code m pc = some i) (h41 : i.1 = 41) (hd : 10 ≤ dd) (hS : jm_cat S ≤ 8) : jm_R sc dd m pc L S h (some (9, 0)) (h.1, h.2 + 1) := ⟨1, jm_mk_thr hc h41 hd hS⟩
theorem jm_R_sc (sc' : List Int) (hm : m < 276) (hx : jm_R sc dd m pc L S h r h') : jm_R sc' dd m pc L S h r h' := by
  obtain ⟨n, hx⟩ := hx
  exact ⟨n, jm_exec_sc sc' n hm hx⟩
end
