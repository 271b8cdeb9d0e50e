section
variable {sc : List Int} {pc pc' : Nat} {L L' : jm_L} {S S' : List jm_V} {h h' : jm_H}
noncomputable def jm_le (h h' : jm_H) : Prop := h.1.length ≤ h'.1.length ∧ (h.1.map (fun c => c.2.length)).sum ≤ (h'.1.map (fun c => c.2.length)).sum ∧ h.2 ≤ h'.2
theorem jm_le_rf (h : jm_H) : jm_le h h := ⟨Nat.le_refl _, Nat.le_refl _, Nat.le_refl _⟩
theorem jm_le_tr {h1 h2 h3 : jm_H} (a : jm_le h1 h2) (b : jm_le h2 h3) : jm_le h1 h3 := ⟨Nat.le_trans a.1 b.1, Nat.le_trans a.2.1 b.2.1, Nat.le_trans a.2.2 b.2.2⟩
theorem jm_le_cn {h h' : jm_H} (a : jm_le h h') : jm_cn h ≤ jm_cn h' ∧ jm_sl h ≤ jm_sl h' := by
  obtain ⟨h1, h2, h3⟩ := a
  unfold jm_cn jm_sl
  omega
theorem jm_le_set {i : Nat} {c c' : jm_C} (hc : h.1[i]? = some c) (hl : c'.2.length = c.2.length) : jm_le h (h.1.set i c', h.2) := by
  refine ⟨by simp, ?_, Nat.le_refl _⟩
  dsimp only
  rw [jm_slset hc hl]
  exact Nat.le_refl _
theorem jm_le_app (c : jm_C) : jm_le h (h.1 ++ [c], h.2) := by
  refine ⟨by simp, ?_, Nat.le_refl _⟩
  dsimp only
  rw [List.map_append, List.sum_append]
  omega
theorem jm_cellg {a : Int} {c : jm_C} (hc : jm_cell h a = some c) : h.1[a.toNat]? = some c := by
  unfold jm_cell at hc
  split at hc
  · cases hc
  · exact hc
theorem jm_le_putf {i : jm_I} (hst : jm_putf i pc L S h = some (pc', L', S', h')) : jm_le h h' := by
  unfold jm_putf at hst
  split at hst
  · split at hst
    · split at hst
      · rename_i hcl
        split at hst
        · cases hst
          exact jm_le_set (jm_cellg hcl) (by simp)
        · cases hst
      · cases hst
    · cases hst
  · cases hst
theorem jm_le_acpy (hst : jm_acpy pc L S h = some (pc', L', S', h')) : jm_le h h' := by
  unfold jm_acpy at hst
  split at hst
  · split at hst
    · split at hst
      · rename_i hcl hcl'
        split at hst
        · rename_i hk
          cases hst
          exact jm_le_set (jm_cellg hcl') (jm_cpy_len _ _ _ _ _ hk.2.2.1 hk.2.2.2)
        · cases hst
      · cases hst
    · cases hst
  · cases hst
theorem jm_stp_le {i : jm_I} (hst : jm_stp sc i pc L S h = some (pc', L', S', h')) : jm_le h h' := by
  obtain ⟨op, a, b, d⟩ := i
  match op, hst with
  | 0, hst => cases hst; exact jm_le_rf _
  | 1, hst => cases hst; exact jm_le_rf _
  | 2, hst =>
    have hst : jm_load (2, a, b, d) pc L S h = some (pc', L', S', h') := hst
    unfold jm_load at hst
    repeat' split at hst
    all_goals first | cases hst; exact jm_le_rf _ | cases hst
  | 3, hst =>
    obtain ⟨v, r, rfl, rfl, rfl, rfl, hc⟩ := jm_store_inv (show jm_store (3, a, b, d) pc L S h = some (pc', L', S', h') from hst)
    exact jm_le_rf _
  | 4, hst =>
    have hst : jm_inc (4, a, b, d) pc L S h = some (pc', L', S', h') := hst
    unfold jm_inc at hst
    repeat' split at hst
    all_goals first | cases hst; exact jm_le_rf _ | cases hst
  | 5, hst =>
    have hst : jm_arith (5, a, b, d) pc L S h = some (pc', L', S', h') := hst
    unfold jm_arith at hst
    split at hst
    · split at hst
      · obtain ⟨z, hz, e⟩ := Option.map_eq_some_iff.mp hst
        cases e; exact jm_le_rf _
      · cases hst
    · cases hst
  | 6, hst =>
    have hst : jm_larith (6, a, b, d) pc L S h = some (pc', L', S', h') := hst
    unfold jm_larith at hst
    split at hst
    · split at hst
      · obtain ⟨z, hz, e⟩ := Option.map_eq_some_iff.mp hst
        cases e; exact jm_le_rf _
      · split at hst
        · obtain ⟨z, hz, e⟩ := Option.map_eq_some_iff.mp hst
          cases e; exact jm_le_rf _
        · cases hst
    · cases hst
  | 7, hst =>
    have hst : jm_conv (7, a, b, d) pc L S h = some (pc', L', S', h') := hst
    unfold jm_conv at hst
    repeat' split at hst
    all_goals first | cases hst; exact jm_le_rf _ | cases hst
  | 8, hst =>
    have hst : jm_stack (8, a, b, d) pc L S h = some (pc', L', S', h') := hst
    unfold jm_stack at hst
    repeat' split at hst
    all_goals first | cases hst; exact jm_le_rf _ | cases hst
  | 9, hst =>
    have hst : jm_if (9, a, b, d) pc L S h = some (pc', L', S', h') := hst
    unfold jm_if at hst
    split at hst
    · split at hst
      · cases hst; exact jm_le_rf _
      · cases hst
    · cases hst
  | 10, hst =>
    have hst : jm_if2 (10, a, b, d) pc L S h = some (pc', L', S', h') := hst
    unfold jm_if2 at hst
    split at hst
    · split at hst
      · cases hst; exact jm_le_rf _
      · cases hst
    · cases hst
  | 11, hst => cases hst; exact jm_le_rf _
  | 12, hst =>
    have hst : jm_lcmp pc L S h = some (pc', L', S', h') := hst
    unfold jm_lcmp at hst
    repeat' split at hst
    all_goals first | cases hst; exact jm_le_rf _ | cases hst
  | 13, hst =>
    have hst : jm_getf (13, a, b, d) pc L S h = some (pc', L', S', h') := hst
    unfold jm_getf at hst
    split at hst
    · split at hst
      · split at hst
        · split at hst
          · split at hst
            · cases hst; exact jm_le_rf _
            · cases hst
          · cases hst
        · cases hst
      · cases hst
    · cases hst
  | 14, hst => exact jm_le_putf (show jm_putf (14, a, b, d) pc L S h = some (pc', L', S', h') from hst)
  | 15, hst =>
    obtain ⟨j, o, r, cc, n, rfl, hj, ho, hcl, hk, hix, rfl, rfl, rfl, rfl⟩ := jm_ald_inv (show jm_ald (15, a, b, d) pc L S h = some (pc', L', S', h') from hst)
    exact jm_le_rf _
  | 16, hst =>
    obtain ⟨v, j, o, r, cc, n, z, rfl, hj, ho, hcl, hix, rfl, rfl, rfl, rfl, hk⟩ := jm_ast_inv (show jm_ast (16, a, b, d) pc L S h = some (pc', L', S', h') from hst)
    exact jm_le_set (jm_cellg hcl) (by simp)
  | 17, hst =>
    obtain ⟨v, r, rfl, hv, hn0, hn1, h20, rfl, rfl, rfl, rfl⟩ := jm_newa_inv (show jm_newa (17, a, b, d) pc L S h = some (pc', L', S', h') from hst)
    exact jm_le_app _
  | 18, hst =>
    have hst : jm_new (18, a, b, d) pc L S h = some (pc', L', S', h') := hst
    unfold jm_new at hst
    split at hst
    · cases hst; exact jm_le_app _
    · cases hst
  | 19, hst => cases hst; exact jm_le_rf _
  | 20, hst =>
    have hst : jm_tsw (20, a, b, d) L S h = some (pc', L', S', h') := hst
    unfold jm_tsw at hst
    repeat' split at hst
    all_goals first | cases hst; exact jm_le_rf _ | cases hst
  | 21, hst =>
    have hst : jm_gets (21, a, b, d) pc L S h = some (pc', L', S', h') := hst
    unfold jm_gets at hst
    repeat' split at hst
    all_goals first | cases hst; exact jm_le_rf _ | cases hst
  | 22, hst =>
    have hst : jm_spec sc (22, a, b, d) pc L S h = some (pc', L', S', h') := hst
    unfold jm_spec at hst
    split at hst
    all_goals first | (split at hst; (first | (obtain ⟨z, hz, e⟩ := Option.map_eq_some_iff.mp hst; cases e; exact jm_le_rf _) | (cases hst; exact jm_le_rf _)); cases hst) | cases hst
  | 23, hst =>
    have hst : jm_obj pc L S h = some (pc', L', S', h') := hst
    unfold jm_obj at hst
    repeat' split at hst
    all_goals first | cases hst; exact jm_le_rf _ | cases hst
  | 24, hst => exact jm_le_acpy (show jm_acpy pc L S h = some (pc', L', S', h') from hst)
  | 25, hst =>
    have hst : jm_alen pc L S h = some (pc', L', S', h') := hst
    unfold jm_alen at hst
    repeat' split at hst
    all_goals first | cases hst; exact jm_le_rf _ | cases hst
  | 26, hst =>
    have hst : jm_mm (26, a, b, d) pc L S h = some (pc', L', S', h') := hst
    unfold jm_mm at hst
    split at hst
    · split at hst
      · cases hst; exact jm_le_rf _
      · cases hst
    · cases hst
  | op + 27, hst => cases hst
end
section
variable {p : Program} {l : Launch} {e : Env} {R : Room} {s : State} {mi : MethodId} {args : Array Value} {below : List Frame} {meth : Method} {c : Code} {Q : State → Prop}
variable {D : va_G} {aC : Nat → ClassId} {ad : Nat → Nat} {fmt : Value} {sc : List Int} {m c0 s0 x0 : Nat}
variable {pc pc' : Nat} {L L' : jm_L} {S S' : List jm_V} {h h' : jm_H} {ls : Array Slot} {H : Heap} {locs : List Loc} {cells slots : Nat}
theorem jm_ok_1 {op b d : Nat} {a : Int} (h : op ≤ 12) : jm_ok m pc (op, a, b, d) = jm_ok1 (g_lnk m pc) (g_m m).1 m (g_m m).2.2.1 pc (op, a, b, d) := if_pos h
theorem jm_ok_2 {op b d : Nat} {a : Int} (h : ¬ op ≤ 12) (h2 : op ≤ 26) : jm_ok m pc (op, a, b, d) = jm_ok2 (g_lnk m pc) (g_m m).1 m pc (op, a, b, d) := (if_neg h).trans (if_pos h2)
theorem jm_step {i : jm_I} (C : jm_Cx p R s mi args meth c D aC ad fmt sc m c0 x0) (rel : jm_Rel D aC ad fmt s (g_m m).2.2.1 c0 s0 x0 L h ls H locs cells slots) (hok : jm_ok m pc i = true)
    (hst : jm_stp sc i pc L S h = some (pc', L', S', h')) (hbd : jm_cn h' ≤ c0 + R.cells ∧ jm_sl h' ≤ s0 + R.slots)
    (nx : jm_Nx p l e R s mi args below meth c Q D aC ad fmt (g_m m).2.2.1 c0 s0 x0 pc' L' S' h') : W p l e R s mi args below meth c H locs cells slots Q (F0 mi pc ls (S.map (jm_cv ad fmt))) := by
  obtain ⟨op, a, b, d⟩ := i
  match op, hok, hst with
  | 0, hok, hst => cases hst; exact jm_s0 C rel ((jm_ok_1 (by decide)).symm.trans hok) nx
  | 1, hok, hst => cases hst; exact jm_s1 C rel ((jm_ok_1 (by decide)).symm.trans hok) nx
  | 2, hok, hst => exact jm_s2 C rel ((jm_ok_1 (by decide)).symm.trans hok) hst nx
  | 3, hok, hst => exact jm_s3 C rel ((jm_ok_1 (by decide)).symm.trans hok) hst nx
  | 4, hok, hst => exact jm_s4 C rel ((jm_ok_1 (by decide)).symm.trans hok) hst nx
  | 5, hok, hst => exact jm_s5 C rel ((jm_ok_1 (by decide)).symm.trans hok) hst nx
  | 6, hok, hst => exact jm_s6 C rel ((jm_ok_1 (by decide)).symm.trans hok) hst nx
  | 7, hok, hst => exact jm_s7 C rel ((jm_ok_1 (by decide)).symm.trans hok) hst nx
  | 8, hok, hst => exact jm_s8 C rel ((jm_ok_1 (by decide)).symm.trans hok) hst nx
  | 9, hok, hst => exact jm_s9 C rel ((jm_ok_1 (by decide)).symm.trans hok) hst nx
  | 10, hok, hst => exact jm_s10 C rel ((jm_ok_1 (by decide)).symm.trans hok) hst nx
  | 11, hok, hst => cases hst; exact jm_s11 C rel ((jm_ok_1 (by decide)).symm.trans hok) nx
  | 12, hok, hst => exact jm_s12 C rel ((jm_ok_1 (by decide)).symm.trans hok) hst nx
  | 13, hok, hst => exact jm_s13 C rel ((jm_ok_2 (by decide) (by decide)).symm.trans hok) hst nx
  | 14, hok, hst => exact jm_s14 C rel ((jm_ok_2 (by decide) (by decide)).symm.trans hok) hst nx
  | 15, hok, hst => exact jm_s15 C rel ((jm_ok_2 (by decide) (by decide)).symm.trans hok) hst nx
  | 16, hok, hst => exact jm_s16 C rel ((jm_ok_2 (by decide) (by decide)).symm.trans hok) hst nx
  | 17, hok, hst => exact jm_s17 C rel ((jm_ok_2 (by decide) (by decide)).symm.trans hok) hst hbd nx
  | 18, hok, hst => exact jm_s18 C rel ((jm_ok_2 (by decide) (by decide)).symm.trans hok) hst hbd nx
  | 19, hok, hst => cases hst; exact jm_s19 C rel ((jm_ok_2 (by decide) (by decide)).symm.trans hok) nx
  | 20, hok, hst => exact jm_s20 C rel ((jm_ok_2 (by decide) (by decide)).symm.trans hok) hst nx
  | 21, hok, hst => exact jm_s21 C rel ((jm_ok_2 (by decide) (by decide)).symm.trans hok) hst nx
  | 22, hok, hst => exact jm_s22 C rel ((jm_ok_2 (by decide) (by decide)).symm.trans hok) hst nx
  | 23, hok, hst => exact jm_s23 C rel ((jm_ok_2 (by decide) (by decide)).symm.trans hok) hst nx
  | 24, hok, hst => exact jm_s24 C rel ((jm_ok_2 (by decide) (by decide)).symm.trans hok) hst nx
  | 25, hok, hst => exact jm_s25 C rel ((jm_ok_2 (by decide) (by decide)).symm.trans hok) hst nx
  | 26, hok, hst =>
    have hr : cells ≤ R.cells ∧ slots ≤ R.slots := by
      have h1 := jm_le_cn (jm_stp_le (sc := sc) (i := (26, a, b, d)) hst)
      have h2 := rel.2.2.2.2.1
      have h3 := rel.2.2.2.2.2
      omega
    exact jm_s26 C rel hr ((jm_ok_2 (by decide) (by decide)).symm.trans hok) hst nx
  | op + 27, hok, hst => cases hst
end
