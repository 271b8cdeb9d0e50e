/-! each step of the Int machine is a step of the Java machine -/
noncomputable def jm_Gx (ad : Nat → Nat) (U : State) (H : Heap) : Prop := vx_Zq Bundle.tN "UNASSIGNED_STACK" Bundle.steD (jm_A ad) U H ∧ vx_Zq Bundle.tN "SUPPRESSED_SENTINEL" Bundle.listD (jm_A ad) U H ∧ (∀ a b : String, Cond.castable a b ∈ lw_tbl → va_Nw (.castable a b) U) ∧ (∀ x : MethodName, Cond.declares x ∈ lw_tbl → va_Nw (.declares x) U)
noncomputable def jm_G (D : va_G) (aC : Nat → ClassId) (ad : Nat → Nat) (fmt : Value) (sc : List Int) (U : State) (H : Heap) : Prop :=
  va_K D g_cl (jm_tys aC) U ∧
  vk_S g_strs.length (g_str.map List.length) (g_str.map (List.map Int32.ofInt)) (fun k => ad (10 + 2 * k)) (fun k => ad (11 + 2 * k)) (jm_A ad) U H ∧
  (∀ k : Nat, k < g_strs.length → vk_R (jm_str k).1 (jm_str k).2.1 (jm_str k).2.2 (ad (10 + 2 * k)) U) ∧
  va_Z "java/lang/String" "COMPACT_STRINGS" "Z" (.int 1) (jm_A ad) U H ∧
  va_Z "jdk/internal/util/Preconditions" "SIOOBE_FORMATTER" "Ljava/util/function/BiFunction;" fmt (jm_A ad) U H ∧
  va_Z "RideLaws$Plan" "MOST_OF" "[I" (.ref (ad 1)) (jm_A ad) U H ∧
  va_T .int (ad 1) g_most.length (fun j => .int (Int32.ofInt (g_most.getD j 0))) (jm_A ad) U H ∧
  va_X (ad 2) sc.length (fun j => Int32.ofInt (sc.getD j 0)) U H ∧ ad 2 < ad 0 ∧ ad 0 ≤ H.size ∧
  (∀ (a : String) (k : Nat) (y : MethodName) (b : String), Cond.methodLinkNest a k y b ∈ lw_tbl → va_Nw (.methodLinkNest a k y b) U) ∧
  (va_AO "RideLaws$State" U ∧ jm_Gx ad U H) ∧ (fmt = .null ∨ ∃ a : Nat, fmt = .ref a)
noncomputable def jm_Rel (D : va_G) (aC : Nat → ClassId) (ad : Nat → Nat) (fmt : Value) (s : State) (nL c0 s0 x0 : Nat) (L : jm_L) (h : jm_H) (ls : Array Slot) (H : Heap) (locs : List Loc) (cells slots : Nat) : Prop :=
  lv_has ls nL (jm_ls ad fmt L) ∧ va_P D g_cl (jm_ws aC ad fmt h.1) H ∧ va_S (jm_A ad) s.heap H locs ∧ x0 ≤ h.2 ∧ c0 + cells = jm_cn h ∧ s0 + slots = jm_sl h
noncomputable def jm_hh (m : Nat) : List (Nat × Nat × Nat × Nat) := (g_hh.find? (fun q => q.1 == m)).elim [] (fun q => q.2)
noncomputable def jm_Cx (p : Program) (R : Room) (s : State) (mi : MethodId) (args : Array Value) (meth : Method) (c : Code) (D : va_G) (aC : Nat → ClassId) (ad : Nat → Nat) (fmt : Value) (sc : List Int) (m c0 x0 : Nat) : Prop :=
  p.tables.exec = Jvm.exec ∧ c.code = (g_m m).2.1 ∧ c.maxLocals = (g_m m).2.2.1 ∧ s.vm.findClass (g_m m).1.cls = some mi.cls ∧ (∀ w ∈ jm_W, w.before args s = true) ∧ jm_G D aC ad fmt sc s s.heap ∧ meth.name = (g_m m).1.name ∧ 1 ≤ R.frames ∧ 60 ≤ R.locals ∧ (x0 = 0 → s.heap.size = ad 0 + c0) ∧ c.exceptionTable.toList = tableOf (jm_hh m)
theorem jm_fc {fmt : Value} (h : fmt = .null ∨ ∃ a : Nat, fmt = .ref a) : fmt.category = 1 := by
  rcases h with rfl | ⟨a, rfl⟩ <;> rfl
section
variable {p : Program} {l : Launch} {e : Env} {R : Room} {s : State} {mi : MethodId} {args : Array Value} {below : List Frame} {meth : Method} {c : Code} {Q : State → Prop}
variable {D : va_G} {aC : Nat → ClassId} {ad : Nat → Nat} {fmt : Value} {sc : List Int} {m c0 s0 x0 : Nat}
variable {pc pc' : Nat} {L L' : jm_L} {S S' : List jm_V} {h h' : jm_H} {ls : Array Slot} {H : Heap} {locs : List Loc} {cells slots : Nat}
noncomputable def jm_Nx (p : Program) (l : Launch) (e : Env) (R : Room) (s : State) (mi : MethodId) (args : Array Value) (below : List Frame) (meth : Method) (c : Code) (Q : State → Prop) (D : va_G) (aC : Nat → ClassId) (ad : Nat → Nat) (fmt : Value) (nL c0 s0 x0 pc' : Nat) (L' : jm_L) (S' : List jm_V) (h' : jm_H) : Prop :=
  ∀ (ls' : Array Slot) (H' : Heap) (locs' : List Loc) (cells' slots' : Nat), jm_Rel D aC ad fmt s nL c0 s0 x0 L' h' ls' H' locs' cells' slots' → W p l e R s mi args below meth c H' locs' cells' slots' Q (F0 mi pc' ls' (S'.map (jm_cv ad fmt)))
theorem jm_s0 {a : Int} {b d : Nat} (C : jm_Cx p R s mi args meth c D aC ad fmt sc m c0 x0) (rel : jm_Rel D aC ad fmt s (g_m m).2.2.1 c0 s0 x0 L h ls H locs cells slots) (hok : jm_ok1 (g_lnk m pc) (g_m m).1 m (g_m m).2.2.1 pc (0, a, b, d) = true)
    (nx : jm_Nx p l e R s mi args below meth c Q D aC ad fmt (g_m m).2.2.1 c0 s0 x0 (pc + d) L ((0, a) :: S) h) : W p l e R s mi args below meth c H locs cells slots Q (F0 mi pc ls (S.map (jm_cv ad fmt))) := by
  obtain ⟨hx, hb, hml, hown, hts, hG, hnm, hfr, hlo⟩ := C
  match b, hok with
  | 0, hok =>
    simp only [jm_ok1, Bool.and_eq_true, decide_eq_true_eq] at hok
    obtain ⟨h1, rfl⟩ := hok
    exact lv_iconst hx hb (jm_dc_eq h1) rfl (nx ls H locs cells slots rel)
  | 1, hok =>
    simp only [jm_ok1, Bool.and_eq_true, decide_eq_true_eq] at hok
    obtain ⟨⟨h1, rfl⟩, h2⟩ := hok
    exact lv_bipush hx hb (jm_dc_eq h1) h2 (nx ls H locs cells slots rel)
  | 2, hok =>
    simp only [jm_ok1, Bool.and_eq_true, decide_eq_true_eq] at hok
    obtain ⟨⟨h1, rfl⟩, h2⟩ := hok
    exact lv_sipush hx hb (jm_dc_eq h1) h2 (nx ls H locs cells slots rel)
  | 3, hok =>
    simp only [jm_ok1, Bool.and_eq_true, decide_eq_true_eq] at hok
    obtain ⟨⟨h1, rfl⟩, h2⟩ := hok
    exact lv_ldc hx hb hown (hts _ (jm_w_in h2)) (jm_dc_eq h1) (nx ls H locs cells slots rel)
  | b + 4, hok =>
    simp only [jm_ok1, Bool.and_eq_true, decide_eq_true_eq] at hok
    obtain ⟨⟨h1, rfl⟩, h2⟩ := hok
    exact lv_ldcw hx hb hown (hts _ (jm_w_in h2)) (jm_dc_eq h1) (nx ls H locs cells slots rel)
theorem jm_s1 {a : Int} {b d : Nat} (C : jm_Cx p R s mi args meth c D aC ad fmt sc m c0 x0) (rel : jm_Rel D aC ad fmt s (g_m m).2.2.1 c0 s0 x0 L h ls H locs cells slots) (hok : jm_ok1 (g_lnk m pc) (g_m m).1 m (g_m m).2.2.1 pc (1, a, b, d) = true)
    (nx : jm_Nx p l e R s mi args below meth c Q D aC ad fmt (g_m m).2.2.1 c0 s0 x0 (pc + d) L ((1, a) :: S) h) : W p l e R s mi args below meth c H locs cells slots Q (F0 mi pc ls (S.map (jm_cv ad fmt))) := by
  obtain ⟨hx, hb, hml, hown, hts, hG, hnm, hfr, hlo⟩ := C
  match b, hok with
  | 0, hok =>
    simp only [jm_ok1, Bool.and_eq_true, decide_eq_true_eq] at hok
    obtain ⟨h1, rfl⟩ := hok
    split at h1
    · rename_i ha
      subst ha
      exact lv_lconst hx hb (jm_dc_eq h1) rfl (nx ls H locs cells slots rel)
    · simp only [Bool.and_eq_true, decide_eq_true_eq] at h1
      obtain ⟨h1, rfl⟩ := h1
      exact lv_lconst hx hb (jm_dc_eq h1) rfl (nx ls H locs cells slots rel)
  | b + 1, hok =>
    simp only [jm_ok1, Bool.and_eq_true, decide_eq_true_eq] at hok
    obtain ⟨⟨h1, rfl⟩, h2⟩ := hok
    exact lv_ldc2 hx hb hown (hts _ (jm_w_in h2)) (jm_dc_eq h1) (nx ls H locs cells slots rel)
theorem jm_f4_eq {f : Fin 4 → Instr} {bm b : Nat} (h : jm_f4 f bm pc b = true) : ∃ k : Fin 4, (k : Nat) = b ∧ decode (g_m bm).2.1 pc = .ok (f k, 1) := by
  unfold jm_f4 at h
  split at h
  · exact ⟨⟨b, by assumption⟩, rfl, jm_dc_eq h⟩
  · cases h
theorem jm_s2 {a : Int} {b d : Nat} (C : jm_Cx p R s mi args meth c D aC ad fmt sc m c0 x0) (rel : jm_Rel D aC ad fmt s (g_m m).2.2.1 c0 s0 x0 L h ls H locs cells slots) (hok : jm_ok1 (g_lnk m pc) (g_m m).1 m (g_m m).2.2.1 pc (2, a, b, d) = true)
    (hst : jm_load (2, a, b, d) pc L S h = some (pc', L', S', h'))
    (nx : jm_Nx p l e R s mi args below meth c Q D aC ad fmt (g_m m).2.2.1 c0 s0 x0 pc' L' S' h') : W p l e R s mi args below meth c H locs cells slots Q (F0 mi pc ls (S.map (jm_cv ad fmt))) := by
  obtain ⟨hx, hb, hml, hown, hts, hG, hnm, hfr, hlo⟩ := C
  have hfm := hG.2.2.2.2.2.2.2.2.2.2.2.2
  unfold jm_load at hst
  dsimp only at hst
  cases hv : jm_get L b with
  | none => rw [hv] at hst; cases hst
  | some v =>
    rw [hv] at hst
    dsimp only at hst
    split at hst
    · rename_i hc
      cases hst
      obtain ⟨k, hk⟩ := jm_getl (ad := ad) (fmt := fmt) hv
      have hv' := lv_at rel.1 k hk
      have nx' := nx ls H locs cells slots rel
      rw [List.map_cons] at nx'
      rcases hc with ⟨rfl, h2⟩ | ⟨rfl, h2⟩ | ⟨rfl, h2⟩
      · rw [jm_cv0 h2] at hv' nx'
        match d, hok, nx' with
        | 0, hok, nx' =>
          obtain ⟨k, hk, hd⟩ := jm_f4_eq (show jm_f4 .iload_n _ pc b = true from hok)
          exact lv_iload_n hx hb hd hk hv' nx'
        | d + 1, hok, nx' =>
          simp only [jm_ok1, Bool.and_eq_true, decide_eq_true_eq] at hok
          obtain ⟨h1, h3⟩ := hok
          cases h1
          exact lv_iload hx hb (jm_dc_eq h3) hv' nx'
      · rw [jm_cv1 h2] at hv' nx'
        match d, hok, nx' with
        | 0, hok, nx' =>
          obtain ⟨k, hk, hd⟩ := jm_f4_eq (show jm_f4 .lload_n _ pc b = true from hok)
          exact lv_lload_n hx hb hd hk hv' nx'
        | d + 1, hok, nx' =>
          simp only [jm_ok1, Bool.and_eq_true, decide_eq_true_eq] at hok
          obtain ⟨h1, h3⟩ := hok
          cases h1
          exact lv_lload hx hb (jm_dc_eq h3) hv' nx'
      · have hr : (∃ q : Nat, jm_cv ad fmt v = .ref q) ∨ jm_cv ad fmt v = .null := by
          rcases h2 with ⟨h2, h3⟩ | h2 | h2
          · exact Or.inl ⟨_, jm_cv2 h2 h3⟩
          · rw [jm_cv3 h2]
            rcases hfm with h | ⟨q, h⟩
            · exact Or.inr h
            · exact Or.inl ⟨q, h⟩
          · exact Or.inl ⟨_, jm_cv4 h2⟩
        rcases hr with ⟨q, hq⟩ | hq
        · rw [hq] at hv' nx'
          match d, hok, nx' with
          | 0, hok, nx' =>
            obtain ⟨k, hk, hd⟩ := jm_f4_eq (show jm_f4 .aload_n _ pc b = true from hok)
            exact lv_aload_n hx hb hd hk hv' nx'
          | d + 1, hok, nx' =>
            simp only [jm_ok1, Bool.and_eq_true, decide_eq_true_eq] at hok
            obtain ⟨h1, h3⟩ := hok
            cases h1
            exact lv_aload hx hb (jm_dc_eq h3) hv' nx'
        · rw [hq] at hv' nx'
          match d, hok, nx' with
          | 0, hok, nx' =>
            obtain ⟨k, hk, hd⟩ := jm_f4_eq (show jm_f4 .aload_n _ pc b = true from hok)
            exact lv_aload_nN hx hb hd hk hv' nx'
          | d + 1, hok, nx' =>
            simp only [jm_ok1, Bool.and_eq_true, decide_eq_true_eq] at hok
            obtain ⟨h1, h3⟩ := hok
            cases h1
            exact lv_aloadN hx hb (jm_dc_eq h3) hv' nx'
    · cases hst
theorem jm_store_inv {a : Int} {b d : Nat} (hst : jm_store (3, a, b, d) pc L S h = some (pc', L', S', h')) : ∃ (v : jm_V) (r : List jm_V), S = v :: r ∧ S' = r ∧ h' = h ∧ pc' = pc + 1 + d ∧ ((a = 0 ∧ v.1 = 0 ∧ L' = jm_st1 L b v) ∨ (a = 1 ∧ v.1 = 1 ∧ L' = jm_st2 L b v) ∨ (a = 2 ∧ (v.1 = 2 ∧ 0 ≤ v.2) ∧ L' = jm_st1 L b v)) := by
  match S, hst with
  | [], hst' => cases hst'
  | v :: r, hst' =>
    unfold jm_store at hst'
    dsimp only at hst'
    refine ⟨v, r, rfl, ?_⟩
    split at hst'
    · rename_i hc
      cases hst'
      exact ⟨rfl, rfl, rfl, Or.inl ⟨hc.1, hc.2, rfl⟩⟩
    · split at hst'
      · rename_i hc
        cases hst'
        exact ⟨rfl, rfl, rfl, Or.inr (Or.inl ⟨hc.1, hc.2, rfl⟩)⟩
      · split at hst'
        · rename_i hc
          cases hst'
          exact ⟨rfl, rfl, rfl, Or.inr (Or.inr ⟨hc.1, hc.2, rfl⟩)⟩
        · cases hst'
theorem jm_s3 {a : Int} {b d : Nat} (C : jm_Cx p R s mi args meth c D aC ad fmt sc m c0 x0) (rel : jm_Rel D aC ad fmt s (g_m m).2.2.1 c0 s0 x0 L h ls H locs cells slots) (hok : jm_ok1 (g_lnk m pc) (g_m m).1 m (g_m m).2.2.1 pc (3, a, b, d) = true)
    (hst : jm_store (3, a, b, d) pc L S h = some (pc', L', S', h'))
    (nx : jm_Nx p l e R s mi args below meth c Q D aC ad fmt (g_m m).2.2.1 c0 s0 x0 pc' L' S' h') : W p l e R s mi args below meth c H locs cells slots Q (F0 mi pc ls (S.map (jm_cv ad fmt))) := by
  obtain ⟨hx, hb, hml, hown, hts, hG, hnm, hfr, hlo⟩ := C
  have hf := jm_fc hG.2.2.2.2.2.2.2.2.2.2.2.2
  obtain ⟨v, r, rfl, rfl, rfl, rfl, hc⟩ := jm_store_inv hst
  clear hst
  obtain ⟨hl1, hok2⟩ := Bool.and_eq_true_iff.mp hok
  have hlt : b < (g_m m).2.2.1 := of_decide_eq_true hl1
  clear hok hl1
  rw [List.map_cons]
  rcases hc with ⟨rfl, h2, rfl⟩ | ⟨rfl, h2, rfl⟩ | ⟨rfl, h2, rfl⟩
  · rw [jm_cv0 h2]
    have key : ∀ ls' : Array Slot, lv_has ls' (g_m m).2.2.1 (jm_ls ad fmt (jm_st1 L b v)) → W p l e R s mi args below meth c H locs cells slots Q (F0 mi (pc + 1 + d) ls' (S'.map (jm_cv ad fmt))) := fun ls' hl' => nx ls' H locs cells slots ⟨hl', rel.2⟩
    have e1 : (b, Value.int (Int32.ofInt v.2)) :: (jm_ls ad fmt L).filter (fun q => !(q.1 == b) && !(q.1 + 1 == b && q.2.category == 2)) = jm_ls ad fmt (jm_st1 L b v) := by rw [← jm_lst1 hf, jm_cv0 h2]
    clear nx
    match d, hok2, key with
    | 0, hok3, key3 =>
      obtain ⟨k, hk, hd⟩ := jm_f4_eq (show jm_f4 .istore_n _ pc b = true from hok3)
      exact lv_istore_n hx hb hd hk rel.1 hlt e1 key3
    | d + 1, hok3, key3 =>
      simp only [Bool.and_eq_true, decide_eq_true_eq] at hok3
      obtain ⟨h1, h3⟩ := hok3
      cases h1
      exact lv_istore hx hb (jm_dc_eq h3) rel.1 hlt e1 key3
  · rw [jm_cv1 h2]
    have key : ∀ ls' : Array Slot, lv_has ls' (g_m m).2.2.1 (jm_ls ad fmt (jm_st2 L b v)) → W p l e R s mi args below meth c H locs cells slots Q (F0 mi (pc + 1 + d) ls' (S'.map (jm_cv ad fmt))) := fun ls' hl' => nx ls' H locs cells slots ⟨hl', rel.2⟩
    have e1 : (b, Value.long (Int64.ofInt v.2)) :: (jm_ls ad fmt L).filter (fun q => !(q.1 == b) && (!(q.1 == b + 1) && !(q.1 + 1 == b && q.2.category == 2))) = jm_ls ad fmt (jm_st2 L b v) := by rw [← jm_lst2 hf, jm_cv1 h2]
    clear nx
    match d, hok2, key with
    | 0, hok3, key3 =>
      have hok4 := Bool.and_eq_true_iff.mp (show (decide (b + 1 < (g_m m).2.2.1) && jm_f4 .lstore_n _ pc b) = true from hok3)
      obtain ⟨k, hk, hd⟩ := jm_f4_eq hok4.2
      exact lv_lstore_n hx hb hd hk rel.1 (of_decide_eq_true hok4.1) e1 key3
    | d + 1, hok3, key3 =>
      simp only [Bool.and_eq_true, decide_eq_true_eq] at hok3
      obtain ⟨h1, h3⟩ := hok3
      cases h1
      have h4 := Bool.and_eq_true_iff.mp (show (decide (b + 1 < (g_m m).2.2.1) && jm_dc _ pc (.lstore b) 2) = true from h3)
      exact lv_lstore hx hb (jm_dc_eq h4.2) rel.1 (of_decide_eq_true h4.1) e1 key3
  · rw [jm_cv2 h2.1 h2.2]
    have key : ∀ ls' : Array Slot, lv_has ls' (g_m m).2.2.1 (jm_ls ad fmt (jm_st1 L b v)) → W p l e R s mi args below meth c H locs cells slots Q (F0 mi (pc + 1 + d) ls' (S'.map (jm_cv ad fmt))) := fun ls' hl' => nx ls' H locs cells slots ⟨hl', rel.2⟩
    have e1 : (b, Value.ref (ad 0 + v.2.toNat)) :: (jm_ls ad fmt L).filter (fun q => !(q.1 == b) && !(q.1 + 1 == b && q.2.category == 2)) = jm_ls ad fmt (jm_st1 L b v) := by rw [← jm_lst1 hf, jm_cv2 h2.1 h2.2]
    clear nx
    match d, hok2, key with
    | 0, hok3, key3 =>
      obtain ⟨k, hk, hd⟩ := jm_f4_eq (show jm_f4 .astore_n _ pc b = true from hok3)
      exact lv_astore_n hx hb hd hk rel.1 hlt e1 key3
    | d + 1, hok3, key3 =>
      simp only [Bool.and_eq_true, decide_eq_true_eq] at hok3
      obtain ⟨h1, h3⟩ := hok3
      cases h1
      exact lv_astore hx hb (jm_dc_eq h3) rel.1 hlt e1 key3
theorem jm_s4 {a : Int} {b d : Nat} (C : jm_Cx p R s mi args meth c D aC ad fmt sc m c0 x0) (rel : jm_Rel D aC ad fmt s (g_m m).2.2.1 c0 s0 x0 L h ls H locs cells slots) (hok : jm_ok1 (g_lnk m pc) (g_m m).1 m (g_m m).2.2.1 pc (4, a, b, d) = true)
    (hst : jm_inc (4, a, b, d) pc L S h = some (pc', L', S', h'))
    (nx : jm_Nx p l e R s mi args below meth c Q D aC ad fmt (g_m m).2.2.1 c0 s0 x0 pc' L' S' h') : W p l e R s mi args below meth c H locs cells slots Q (F0 mi pc ls (S.map (jm_cv ad fmt))) := by
  obtain ⟨hx, hb, hml, hown, hts, hG, hnm, hfr, hlo⟩ := C
  have hf := jm_fc hG.2.2.2.2.2.2.2.2.2.2.2.2
  unfold jm_inc at hst
  dsimp only at hst
  simp only [jm_ok1, Bool.and_eq_true, decide_eq_true_eq] at hok
  cases hv : jm_get L b with
  | none => rw [hv] at hst; cases hst
  | some v =>
    rw [hv] at hst
    dsimp only at hst
    split at hst
    · rename_i hc
      cases hst
      obtain ⟨k, hk⟩ := jm_getl (ad := ad) (fmt := fmt) hv
      rw [jm_cv0 hc] at hk
      refine lv_iinc hx hb (jm_dc_eq hok.2) rel.1 hk (v := Int32.ofInt (v.2 + a)) (by rw [Int32.ofInt_add]) hok.1 ?_ (fun ls' hl' => nx ls' H locs cells slots ⟨hl', rel.2⟩)
      rw [← jm_lst1 hf]
      rfl
    · cases hst
end
