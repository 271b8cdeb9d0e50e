/-! the words of the throw lie in the table -/
noncomputable def jx_P (w : Cond) : Prop := w ∈ jm_W ∨ (w ∈ lw_tbl ∧ (match w with | .castable _ _ => True | .declares _ => True | _ => False))
set_option maxRecDepth 100000 in
theorem jx_w1 : ∀ w ∈ Bundle.throwableAtoms, vx_no w = true → jx_P w := by
  unfold Bundle.throwableAtoms
  refine List.forall_mem_cons.mpr ⟨fun _ => Or.inl (List.mem_filter.mpr ⟨List.mem_of_getElem? (i := 121) rfl, rfl⟩), ?_⟩
  refine List.forall_mem_cons.mpr ⟨fun _ => Or.inl (List.mem_filter.mpr ⟨List.mem_of_getElem? (i := 1228) rfl, rfl⟩), ?_⟩
  refine List.forall_mem_cons.mpr ⟨fun _ => Or.inl (List.mem_filter.mpr ⟨List.mem_of_getElem? (i := 1237) rfl, rfl⟩), ?_⟩
  refine List.forall_mem_cons.mpr ⟨fun _ => Or.inl (List.mem_filter.mpr ⟨List.mem_of_getElem? (i := 1239) rfl, rfl⟩), ?_⟩
  refine List.forall_mem_cons.mpr ⟨fun _ => Or.inl (List.mem_filter.mpr ⟨List.mem_of_getElem? (i := 1242) rfl, rfl⟩), ?_⟩
  refine List.forall_mem_cons.mpr ⟨fun _ => Or.inl (List.mem_filter.mpr ⟨List.mem_of_getElem? (i := 1244) rfl, rfl⟩), ?_⟩
  refine List.forall_mem_cons.mpr ⟨fun _ => Or.inl (List.mem_filter.mpr ⟨List.mem_of_getElem? (i := 1229) rfl, rfl⟩), ?_⟩
  refine List.forall_mem_cons.mpr ⟨fun _ => Or.inl (List.mem_filter.mpr ⟨List.mem_of_getElem? (i := 1230) rfl, rfl⟩), ?_⟩
  refine List.forall_mem_cons.mpr ⟨fun _ => Or.inl (List.mem_filter.mpr ⟨List.mem_of_getElem? (i := 133) rfl, rfl⟩), ?_⟩
  refine List.forall_mem_cons.mpr ⟨fun _ => Or.inl (List.mem_filter.mpr ⟨List.mem_of_getElem? (i := 134) rfl, rfl⟩), ?_⟩
  refine List.forall_mem_cons.mpr ⟨fun _ => Or.inl (List.mem_filter.mpr ⟨List.mem_of_getElem? (i := 1231) rfl, rfl⟩), ?_⟩
  refine List.forall_mem_cons.mpr ⟨fun _ => Or.inl (List.mem_filter.mpr ⟨List.mem_of_getElem? (i := 1236) rfl, rfl⟩), ?_⟩
  refine List.forall_mem_cons.mpr ⟨fun _ => Or.inl (List.mem_filter.mpr ⟨List.mem_of_getElem? (i := 1240) rfl, rfl⟩), ?_⟩
  refine List.forall_mem_cons.mpr ⟨fun _ => Or.inl (List.mem_filter.mpr ⟨List.mem_of_getElem? (i := 1260) rfl, rfl⟩), ?_⟩
  refine List.forall_mem_cons.mpr ⟨fun _ => Or.inl (List.mem_filter.mpr ⟨List.mem_of_getElem? (i := 1218) rfl, rfl⟩), ?_⟩
  refine List.forall_mem_cons.mpr ⟨fun _ => Or.inl (List.mem_filter.mpr ⟨List.mem_of_getElem? (i := 1261) rfl, rfl⟩), ?_⟩
  refine List.forall_mem_cons.mpr ⟨fun _ => Or.inl (List.mem_filter.mpr ⟨List.mem_of_getElem? (i := 1220) rfl, rfl⟩), ?_⟩
  refine List.forall_mem_cons.mpr ⟨fun _ => Or.inl (List.mem_filter.mpr ⟨List.mem_of_getElem? (i := 1262) rfl, rfl⟩), ?_⟩
  refine List.forall_mem_cons.mpr ⟨fun _ => Or.inl (List.mem_filter.mpr ⟨List.mem_of_getElem? (i := 1222) rfl, rfl⟩), ?_⟩
  refine List.forall_mem_cons.mpr ⟨fun _ => Or.inl (List.mem_filter.mpr ⟨List.mem_of_getElem? (i := 1232) rfl, rfl⟩), ?_⟩
  refine List.forall_mem_cons.mpr ⟨fun h => absurd h (by decide), ?_⟩
  refine List.forall_mem_cons.mpr ⟨fun _ => Or.inl (List.mem_filter.mpr ⟨List.mem_of_getElem? (i := 1234) rfl, rfl⟩), ?_⟩
  refine List.forall_mem_cons.mpr ⟨fun h => absurd h (by decide), ?_⟩
  refine List.forall_mem_cons.mpr ⟨fun _ => Or.inl (List.mem_filter.mpr ⟨List.mem_of_getElem? (i := 1224) rfl, rfl⟩), ?_⟩
  exact fun _ h => nomatch h
set_option maxRecDepth 100000 in
theorem jx_w2 : ∀ w ∈ Bundle.throwableSAtoms, vx_no w = true → jx_P w := by
  unfold Bundle.throwableSAtoms
  refine List.forall_mem_cons.mpr ⟨fun _ => Or.inl (List.mem_filter.mpr ⟨List.mem_of_getElem? (i := 1256) rfl, rfl⟩), ?_⟩
  refine List.forall_mem_cons.mpr ⟨fun _ => Or.inl (List.mem_filter.mpr ⟨List.mem_of_getElem? (i := 1257) rfl, rfl⟩), ?_⟩
  refine List.forall_mem_cons.mpr ⟨fun _ => Or.inl (List.mem_filter.mpr ⟨List.mem_of_getElem? (i := 1259) rfl, rfl⟩), ?_⟩
  refine List.forall_mem_cons.mpr ⟨fun _ => Or.inl (List.mem_filter.mpr ⟨List.mem_of_getElem? (i := 1224) rfl, rfl⟩), ?_⟩
  exact fun _ h => nomatch h
set_option maxRecDepth 100000 in
theorem jx_w3 : ∀ w ∈ Bundle.passSAtoms jm_NS jx_R 13 jx_b, vx_no w = true → jx_P w := by
  unfold Bundle.passSAtoms
  refine List.forall_mem_cons.mpr ⟨fun _ => Or.inl (List.mem_filter.mpr ⟨List.mem_of_getElem? (i := 1247) rfl, rfl⟩), ?_⟩
  refine List.forall_mem_cons.mpr ⟨fun _ => Or.inl (List.mem_filter.mpr ⟨List.mem_of_getElem? (i := 1248) rfl, rfl⟩), ?_⟩
  refine List.forall_mem_cons.mpr ⟨fun _ => Or.inl (List.mem_filter.mpr ⟨List.mem_of_getElem? (i := 1249) rfl, rfl⟩), ?_⟩
  refine List.forall_mem_cons.mpr ⟨fun _ => Or.inl (List.mem_filter.mpr ⟨List.mem_of_getElem? (i := 1250) rfl, rfl⟩), ?_⟩
  refine List.forall_mem_cons.mpr ⟨fun _ => Or.inr ⟨List.mem_of_getElem? (i := 1210) rfl, trivial⟩, ?_⟩
  exact fun _ h => nomatch h
set_option maxRecDepth 100000 in
theorem jx_w4 : ∀ w ∈ Bundle.passSAtoms jx_R "java/lang/Exception" 7 Bundle.six, vx_no w = true → jx_P w := by
  unfold Bundle.passSAtoms
  refine List.forall_mem_cons.mpr ⟨fun _ => Or.inl (List.mem_filter.mpr ⟨List.mem_of_getElem? (i := 1250) rfl, rfl⟩), ?_⟩
  refine List.forall_mem_cons.mpr ⟨fun _ => Or.inl (List.mem_filter.mpr ⟨List.mem_of_getElem? (i := 1251) rfl, rfl⟩), ?_⟩
  refine List.forall_mem_cons.mpr ⟨fun _ => Or.inl (List.mem_filter.mpr ⟨List.mem_of_getElem? (i := 1252) rfl, rfl⟩), ?_⟩
  refine List.forall_mem_cons.mpr ⟨fun _ => Or.inl (List.mem_filter.mpr ⟨List.mem_of_getElem? (i := 1253) rfl, rfl⟩), ?_⟩
  refine List.forall_mem_cons.mpr ⟨fun _ => Or.inr ⟨List.mem_of_getElem? (i := 1212) rfl, trivial⟩, ?_⟩
  exact fun _ h => nomatch h
set_option maxRecDepth 100000 in
theorem jx_w5 : ∀ w ∈ Bundle.passSAtoms "java/lang/Exception" Bundle.tN 7 Bundle.six, vx_no w = true → jx_P w := by
  unfold Bundle.passSAtoms
  refine List.forall_mem_cons.mpr ⟨fun _ => Or.inl (List.mem_filter.mpr ⟨List.mem_of_getElem? (i := 1253) rfl, rfl⟩), ?_⟩
  refine List.forall_mem_cons.mpr ⟨fun _ => Or.inl (List.mem_filter.mpr ⟨List.mem_of_getElem? (i := 1254) rfl, rfl⟩), ?_⟩
  refine List.forall_mem_cons.mpr ⟨fun _ => Or.inl (List.mem_filter.mpr ⟨List.mem_of_getElem? (i := 1255) rfl, rfl⟩), ?_⟩
  refine List.forall_mem_cons.mpr ⟨fun _ => Or.inl (List.mem_filter.mpr ⟨List.mem_of_getElem? (i := 1256) rfl, rfl⟩), ?_⟩
  refine List.forall_mem_cons.mpr ⟨fun _ => Or.inr ⟨List.mem_of_getElem? (i := 1214) rfl, trivial⟩, ?_⟩
  exact fun _ h => nomatch h
set_option maxRecDepth 100000 in
theorem jx_w6 : ∀ w ∈ jx_tail "RideLaws" 147, vx_no w = true → jx_P w := by
  unfold jx_tail
  refine List.forall_mem_cons.mpr ⟨fun _ => Or.inl (List.mem_filter.mpr ⟨List.mem_of_getElem? (i := 1246) rfl, rfl⟩), ?_⟩
  refine List.forall_mem_cons.mpr ⟨fun _ => Or.inl (List.mem_filter.mpr ⟨List.mem_of_getElem? (i := 1207) rfl, rfl⟩), ?_⟩
  refine List.forall_mem_cons.mpr ⟨fun _ => Or.inr ⟨List.mem_of_getElem? (i := 1208) rfl, trivial⟩, ?_⟩
  refine List.forall_mem_cons.mpr ⟨fun _ => Or.inl (List.mem_filter.mpr ⟨List.mem_of_getElem? (i := 1215) rfl, rfl⟩), ?_⟩
  refine List.forall_mem_cons.mpr ⟨fun _ => Or.inl (List.mem_filter.mpr ⟨List.mem_of_getElem? (i := 1216) rfl, rfl⟩), ?_⟩
  refine List.forall_mem_cons.mpr ⟨fun _ => Or.inl (List.mem_filter.mpr ⟨List.mem_of_getElem? (i := 1217) rfl, rfl⟩), ?_⟩
  refine List.forall_mem_cons.mpr ⟨fun _ => Or.inl (List.mem_filter.mpr ⟨List.mem_of_getElem? (i := 1219) rfl, rfl⟩), ?_⟩
  refine List.forall_mem_cons.mpr ⟨fun _ => Or.inl (List.mem_filter.mpr ⟨List.mem_of_getElem? (i := 1221) rfl, rfl⟩), ?_⟩
  refine List.forall_mem_cons.mpr ⟨fun _ => Or.inl (List.mem_filter.mpr ⟨List.mem_of_getElem? (i := 1223) rfl, rfl⟩), ?_⟩
  refine List.forall_mem_cons.mpr ⟨fun h => absurd h (by decide), ?_⟩
  refine List.forall_mem_cons.mpr ⟨fun h => absurd h (by decide), ?_⟩
  refine List.forall_mem_cons.mpr ⟨fun _ => Or.inl (List.mem_filter.mpr ⟨List.mem_of_getElem? (i := 1227) rfl, rfl⟩), ?_⟩
  refine List.forall_mem_cons.mpr ⟨fun _ => Or.inl (List.mem_filter.mpr ⟨List.mem_of_getElem? (i := 1226) rfl, rfl⟩), ?_⟩
  refine List.forall_mem_cons.mpr ⟨fun _ => Or.inl (List.mem_filter.mpr ⟨List.mem_of_getElem? (i := 1225) rfl, rfl⟩), ?_⟩
  exact fun _ h => nomatch h
theorem jx_w {w : Cond} (hw : w ∈ jx_own "RideLaws" 147) (hn : vx_no w = true) : jx_P w := by
  rcases List.mem_append.mp hw with h | h
  · exact jx_w1 w h hn
  · rcases List.mem_append.mp h with h | h
    · exact jx_w2 w h hn
    · rcases List.mem_append.mp h with h | h
      · exact jx_w3 w h hn
      · rcases List.mem_append.mp h with h | h
        · rcases List.mem_append.mp (show w ∈ Bundle.passSAtoms jx_R "java/lang/Exception" 7 Bundle.six ++ Bundle.passSAtoms "java/lang/Exception" Bundle.tN 7 Bundle.six from h) with h | h
          · exact jx_w4 w h hn
          · exact jx_w5 w h hn
        · exact jx_w6 w h hn
theorem jx_ot : (jx_at "RideLaws" 147).all vx_ot = true := by decide +kernel
