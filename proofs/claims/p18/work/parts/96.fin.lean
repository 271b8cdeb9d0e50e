/-! the law on every script of at most 3072 ints -/
noncomputable def ax_ccl (m pc : Nat) (i : jm_I) (S : List jm_V) (h : jm_H) : Bool := decide (g_code m pc = some i) && (decide (i.1 = 30) && (decide (i.2.1 < 1000) && (decide (i.2.2.2 ≤ S.length) && (decide (jm_cat (S.drop i.2.2.2) ≤ 8) && (decide (jm_cat (S.take i.2.2.2) ≤ (g_m i.2.2.1).2.2.1) && jm_rcv i.2.1 (S.take i.2.2.2).reverse h)))))
theorem jm_ccl {m pc : Nat} {i : jm_I} {S : List jm_V} {h : jm_H} (hc : ax_ccl m pc i S h = true) : g_code m pc = some i ∧ (i.1 = 30 ∨ i.1 = 31 ∨ i.1 = 32) ∧ jm_cc m pc i S h := by
  unfold ax_ccl at hc
  simp only [Bool.and_eq_true, decide_eq_true_eq] at hc
  obtain ⟨c1, c2, c3, c4, c5, c6, c7⟩ := hc
  refine ⟨c1, Or.inl c2, c4, c5, c6, ?_⟩
  rw [if_neg (by omega)]
  exact c7
noncomputable def jm_ns (i : jm_I) : Bool := !(decide (i.1 = 40)) && !(decide (i.1 = 30 ∨ i.1 = 31 ∨ i.1 = 32)) && !(decide (i.1 = 22))
/-- a step, checked -/
noncomputable def jm_st (m pc : Nat) (i : jm_I) (L : jm_L) (S : List jm_V) (h : jm_H) (pc' : Nat) (L' : jm_L) (S' : List jm_V) (h' : jm_H) : Bool := decide (g_code m pc = some i) && (jm_ns i && (match jm_stp [] i pc L S h with
  | some T => decide (T.1 = pc') && (decide (T.2.1 = L') && (decide (T.2.2.1 = S') && (decide (T.2.2.2.1 = h'.1) && decide (T.2.2.2.2 = h'.2))))
  | none => false))
theorem jm_st_R {sc : List Int} {d m pc pc' : Nat} {i : jm_I} {L L' : jm_L} {S S' : List jm_V} {h h' k : jm_H} {r : Option jm_V} (hc : jm_st m pc i L S h pc' L' S' h' = true) (hx : jm_R sc d m pc' L' S' h' r k) : jm_R sc d m pc L S h r k := by
  obtain ⟨h1, h2⟩ := Bool.and_eq_true_iff.mp hc
  obtain ⟨h3, h4⟩ := Bool.and_eq_true_iff.mp h2
  unfold jm_ns at h3
  simp only [Bool.and_eq_true, Bool.not_eq_true', decide_eq_false_iff_not] at h3
  split at h4
  · rename_i T hT
    simp only [Bool.and_eq_true, decide_eq_true_eq] at h4
    obtain ⟨p1, L1, S1, g1, x1⟩ := T
    obtain ⟨e1, e2, e3, e4, e5⟩ := h4
    obtain ⟨g2, x2⟩ := h'
    dsimp only at e1 e2 e3 e4 e5
    subst e1; subst e2; subst e3; subst e4; subst e5
    exact jm_R_stp (of_decide_eq_true h1) h3.1.1 h3.1.2 ((jm_stp_sc (fun q => h3.2 q.1)).trans hT) hx
  · cases h4
noncomputable def g_D1c : jm_H := ([(10, jm_def 0)], 0)
noncomputable def g_D2c : jm_H := (g_A0.take 192, 0)
noncomputable def g_D3c : jm_H := (g_A0.take 192 ++ [(22, jm_def 12)], 0)
noncomputable def g_D4c : jm_H := (g_A0.take 208, 0)
theorem g_p0 : jm_st 276 0 (18, 0, 0, 0) [(0, (4, 2))] [] ([], 0) 3 [(0, (4, 2))] [(2, 0)] g_D1c = true := by decide +kernel
theorem g_p3 : jm_st 276 3 (8, 0, 0, 0) [(0, (4, 2))] [(2, 0)] g_D1c 4 [(0, (4, 2))] [(2, 0), (2, 0)] g_D1c = true := by decide +kernel
theorem g_p4 : ax_ccl 276 4 (30, -2, 0, 1) [(2, 0), (2, 0)] g_D1c = true := by decide +kernel
theorem g_p7 : jm_st 276 7 (3, 2, 1, 0) [(0, (4, 2))] [(2, 0)] g_D2c 8 [(1, (2, 0)), (0, (4, 2))] [] g_D2c = true := by decide +kernel
theorem g_p8 : jm_st 276 8 (18, 0, 12, 0) [(1, (2, 0)), (0, (4, 2))] [] g_D2c 11 [(1, (2, 0)), (0, (4, 2))] [(2, 192)] g_D3c = true := by decide +kernel
theorem g_p11 : jm_st 276 11 (8, 0, 0, 0) [(1, (2, 0)), (0, (4, 2))] [(2, 192)] g_D3c 12 [(1, (2, 0)), (0, (4, 2))] [(2, 192), (2, 192)] g_D3c = true := by decide +kernel
theorem g_p12 : ax_ccl 276 12 (30, -2, 171, 1) [(2, 192), (2, 192)] g_D3c = true := by decide +kernel
theorem g_p15 : jm_st 276 15 (3, 2, 2, 0) [(1, (2, 0)), (0, (4, 2))] [(2, 192)] g_D4c 16 [(2, (2, 192)), (1, (2, 0)), (0, (4, 2))] [] g_D4c = true := by decide +kernel
theorem g_p16 : jm_st 276 16 (0, 1, 0, 1) [(2, (2, 192)), (1, (2, 0)), (0, (4, 2))] [] g_D4c 17 [(2, (2, 192)), (1, (2, 0)), (0, (4, 2))] [(0, 1)] g_D4c = true := by decide +kernel
theorem g_p17 : jm_st 276 17 (17, 0, 2, 0) [(2, (2, 192)), (1, (2, 0)), (0, (4, 2))] [(0, 1)] g_D4c 19 [(2, (2, 192)), (1, (2, 0)), (0, (4, 2))] [(2, 208)] (g_A0, 0) = true := by decide +kernel
theorem g_p19 : jm_st 276 19 (3, 2, 3, 0) [(2, (2, 192)), (1, (2, 0)), (0, (4, 2))] [(2, 208)] (g_A0, 0) 20 g_L0 [] (g_A0, 0) = true := by decide +kernel
theorem g_pre {sc : List Int} {r : Option jm_V} {k : jm_H} (hx : jm_R sc 100 276 20 g_L0 [] (g_A0, 0) r k) : jm_R sc 100 276 0 [(0, (4, 2))] [] ([], 0) r k := by
  refine jm_st_R g_p0 (jm_st_R g_p3 ?_)
  refine jm_R_call (d' := 99) (r1 := none) (h1 := g_D2c) (jm_ccl g_p4).1 (jm_ccl g_p4).2.1 (jm_ccl g_p4).2.2 (jm_R_sc sc (show 0 < 276 by decide) ⟨_, jm_ctor1⟩) (by decide) ?_
  refine jm_st_R g_p7 (jm_st_R g_p8 (jm_st_R g_p11 ?_))
  refine jm_R_call (d' := 99) (r1 := none) (h1 := g_D4c) (jm_ccl g_p12).1 (jm_ccl g_p12).2.1 (jm_ccl g_p12).2.2 (jm_R_sc sc (show 171 < 276 by decide) ⟨_, jm_ctor2⟩) (by decide) ?_
  exact jm_st_R g_p15 (jm_st_R g_p16 (jm_st_R g_p17 (jm_st_R g_p19 hx)))
theorem g_s20 : jm_st 276 20 (0, 0, 0, 1) g_L0 [] (g_A0, 0) 21 g_L0 [(0, 0)] (g_A0, 0) = true := by decide +kernel
theorem g_s21 : jm_st 276 21 (3, 0, 4, 1) g_L0 [(0, 0)] (g_A0, 0) 23 ((4, (0, 0)) :: g_L0) [] (g_A0, 0) = true := by decide +kernel
theorem g_run {L : Nat} {xs : Nat → Int32} (hL : L ≤ 3072) : ∃ (n : Nat) (h' : jm_H), jm_exec ((List.range L).map (fun j => (xs j).toInt)) n 100 276 0 [(0, (4, 2))] [] ([], 0) = some (some (0, 1), h') ∧ jm_cn h' ≤ room_1.cells ∧ jm_sl h' ≤ room_1.slots := by
  have hlen : ((List.range L).map (fun j => (xs j).toInt)).length = L := by rw [List.length_map, List.length_range]
  have hsc : SCP ((List.range L).map (fun j => (xs j).toInt)) := by
    intro k
    by_cases hk : k < L
    · rw [List.getD_eq_getElem?_getD, List.getElem?_map, List.getElem?_range hk]
      exact hb_r32 (xs k)
    · rw [List.getD_eq_getElem?_getD, List.getElem?_eq_none (by omega)]
      exact ⟨by decide, by decide⟩
  obtain ⟨-, -, -, -, -, -, -, -, z9, z10, z11⟩ := g_f0_z
  have h := lw_loop (sc := (List.range L).map (fun j => (xs j).toInt)) (d := 76) (by omega) hsc (by decide) (L + 1) 0 g_f0 0 ((4, (0, 0)) :: g_L0) rfl rfl rfl rfl rfl g_f0_i z9 ⟨z10, z11⟩ g_f0_t g_f0_w g_f0_x (by decide) (by omega) (by decide) (by omega)
  obtain ⟨r, ψ, y, hR, rfl, hy⟩ := h
  rw [g_f0_e] at hR
  obtain ⟨n, hn⟩ := g_pre (jm_st_R g_s20 (jm_st_R g_s21 hR))
  refine ⟨n, _, hn, ?_, ?_⟩
  · rw [hf_cn]
    show 209 + y ≤ 601024
    omega
  · refine Nat.le_trans hf_sl ?_
    show 7000 + 6 * y ≤ 7293034
    omega
theorem whole_start {p : Program} {e : Env} {s : State} {m : MethodId} {below : List Frame} {meth : Method} {c : Code} (l : Launch) (hl : l.stackTraces = false) {b L : Nat} {xs : Nat → Int32} (hL : L ≤ 3072) (C0 : lw_At p s m meth c b L xs) (hnm : meth.name = "law") (htab : c.exceptionTable.toList = []) : W p l e room_1 s m #[Value.ref b] below meth c s.heap [] 0 0 (lw_Z below #[Value.ref b] s) (entryFrame m ([Value.ref b] : List Value).toArray 7) :=
  jm_law_open l (fun _ _ _ _ _ => jm_XW_of hl) C0 hnm htab (g_run hL)
set_option maxHeartbeats 4000000 in
theorem lw_walk (l : Launch) (hl : l.stackTraces = false) (b : Addr) (xs : List Int32) : MetFree l x (headSpec (Jvm.Cond.code x code maxLocals ret :: tables_1) room_1) (lw_P b xs) (fun _ _ _ _ _ => True) lw_Q := by
  refine MetFree.of_bodyS (code := code) (maxLocals := maxLocals) (ret := ret) (by decide) ?_ ?_
  · intro args s m h hn
    obtain ⟨meth, c, h1, h2, h3, h4, h5, h6, -, -⟩ := Cond.code_spec hn (atoms_spec (ws := Jvm.Cond.code x code maxLocals ret :: tables_1) h _ List.mem_cons_self)
    exact ⟨meth, c, h1, h2, h3, h4, h5, h6⟩
  · intro p e s m args below meth c s₁ B hml0 hP _
    obtain ⟨rfl, hx, hbd, hgv⟩ := hP
    obtain ⟨scr, harrAt, hlist, hof, hsmall⟩ := hx
    obtain ⟨hcb, hkn, -, -⟩ := State.arrayAt?_spec harrAt
    have hown : s.vm.findClass R_law = some m.cls := findClass_of_methodNamed B.named
    have hts0 : ∀ c ∈ (Jvm.Cond.code x code maxLocals ret :: tables_1), c.before #[Value.ref b] s = true := atoms_spec (ws := Jvm.Cond.code x code maxLocals ret :: tables_1) B.pre
    have hts : ∀ w ∈ lw_tbl, w.before #[Value.ref b] s = true := k2_hts_sels lw_privs (fun w hw => hts0 w (List.mem_cons_of_mem _ hw)) lw_privs_ok
    have hml : c.maxLocals = 7 := B.maxLocals_eq (hts0 _ List.mem_cons_self)
    have X₀ : Stand p l e room_1 s m #[Value.ref b] below meth c s₁ [] 0 0 := Stand.of_body B
    have hh0 : s₁.heap = s.heap := by rw [B.state]; rfl
    have hsz : scr.slots.size = xs.length := by rw [← Array.length_toList, hlist, List.length_map]
    have hval : ∀ j : Nat, j < xs.length → scr.slots[j]? = some (.int (xs.getD j 0)) := fun j hj => by
      rw [← Array.getElem?_toList, hlist]
      simp [hj]
    have hbl : b < s.heap.size := (Array.getElem?_eq_some_iff.mp hcb).1
    have hX : va_X b xs.length (fun j => xs.getD j 0) s s.heap := ⟨scr, hcb, hof, hkn, hsz, hval⟩
    have K : W p l e room_1 s m #[Value.ref b] below meth c s₁.heap [] 0 0 (lw_Z below #[Value.ref b] s) (entryFrame m ([Value.ref b] : List Value).toArray 7) := by
      rw [hh0]
      have htab : c.exceptionTable.toList = [] := by
        obtain ⟨meth9, c9, h1, h2, -, -, -, -, h7, -⟩ := Cond.code_spec B.named (hts0 _ List.mem_cons_self)
        cases Option.some.inj (h1.symm.trans B.method)
        cases Option.some.inj (h2.symm.trans X₀.code)
        rw [Array.isEmpty_iff.mp h7]
      exact whole_start l hl hbd ⟨B.exec, B.bytes, B.returns, hml, hown, hts, hX, hbl, B.notSynchronized, hgv⟩ (name_of_methodNamed B.named B.method).1 htab
    obtain ⟨t, a1, o, b1, b2, b3⟩ := K s₁ rfl X₀
    exact ⟨t, o, a1, b1, b2, b3⟩
theorem lw_pre_spec {args : Array Value} {s : State} (h : (Jvm.Cond.and given_1 narrow_1).before args s = true) (hr : rest_1_c.before args s = true) : ∃ (b : Addr) (xs : List Int32), lw_P b xs args s := by
  have hs := flat_of_before _ h
  have hq := flat_of_before _ hr
  have hc : (Cond.count 1).before args s = true := hs _ (by decide +kernel)
  have harr : (Cond.arrayOf (.arg 0) .int).before args s = true := hs _ (by decide +kernel)
  have hle : (Cond.le (.length (.arg 0)) (.int 3072)).before args s = true := hs _ (by decide +kernel)
  have hlen : (Cond.isInt (.length (.arg 0))).before args s = true := hq _ (by decide +kernel)
  have hall : (Cond.all (.arg 0) (.isInt (.elem (.arg 0) (.index 0)))).before args s = true := hq _ (by decide +kernel)
  obtain ⟨b, xs, hb, hx⟩ := State.ints_of_pre rfl harr hlen hall
  have hsm : xs.length < 2 ^ 31 := hx.choose_spec.2.2.2
  have hev : (Term.length (.arg 0)).eval args s none [] s = some (.int xs.length.toInt32) := hx.length_eval hb
  have hv := Cond.le_ints hev (show (Term.int 3072).eval args s none [] s = some (.int 3072) from rfl)
  have hd : xs.length.toInt32 ≤ 3072 := by
    simpa [Cond.before, Cond.holds, hv] using hle
  have hN : xs.length ≤ 3072 := (Int32.ofNat_le_ofNat hsm (by decide)).mp (show Int32.ofNat xs.length ≤ Int32.ofNat 3072 from hd)
  exact ⟨b, xs, Cond.one_arg hc (show args[0]? = some (.ref b) from hb), hx, hN, h⟩
theorem lw_comes (l : Launch) (hl : l.stackTraces = false) : Comes l x (Jvm.Cond.code x code maxLocals ret :: tables_1) room_1 (fun tb e args s => Calls_1 tb e args s ∧ rest_1 tb e args s ∧ Pre_1 tb e args s)
    (fun _ _ args s o t => lw_Q args s o t) := by
  intro p e ha hc hk s m args below hf hfit hheap happ hpre
  obtain ⟨b, xs, hP⟩ := lw_pre_spec hpre.2.2 hpre.2.1
  obtain ⟨k, o, h1, h2, h3, hQ⟩ := lw_walk l hl b xs p e ha hc hk s m args below hf ((Spec.applies_iff_loose hf).mp happ).1 hP trivial
  exact ⟨k, o, h1, h2, h3, hQ⟩
theorem lw_frame {s t : State} {o : Outcome} {args : Array Value} (h : Framed s o t [] 601024 7293034) :
    Framed s o t (fieldLocs frame_1_writes args s ++ arrayLocs frame_1_arrays args s ++ staticLocs frame_1_statics s) 601024 7293034 := h
theorem lw_limb (L : Cond) (hL : ∀ (args : Array Value) (s t : State), L.after args s (.returned (some (.int 1))) t = true) :
    ArmFor flags0 classFile x code maxLocals ret World_1 tables_1 room_1 Calls_1 rest_1 Pre_1
      (fun tb e a s o t => postC L tb e a s o t ∧ Framed s o t (fieldLocs frame_1_writes a s ++ arrayLocs frame_1_arrays a s ++ staticLocs frame_1_statics s) 601024 7293034) := by
  intro l hfl _ _ p e ha hc hk s m args below hf hfit hheap happ hpre
  have hl : l.stackTraces = false := by unfold Launch.stackTraces; rw [hfl]; decide
  obtain ⟨k, o, h1, h2, h3, rfl, hF⟩ := lw_comes l hl p e ha hc hk s m args below hf hfit hheap happ hpre
  exact ⟨k, _, h1, h2, h3, hL args s _, lw_frame hF⟩
theorem i_vc : Claimed_1_1 ∧ Claimed_1_2 := ⟨lw_limb limb_1_1 (fun args s t => by simp [limb_1_1, Cond.after, Cond.holds, Cond.value]), lw_limb limb_1_2 (fun args s t => Cond.after_iff.mpr (by
  first | (rw [show limb_1_2 = Cond.eq .result (.int 1) from rfl, Cond.eq_ints (x := 1) (y := 1) rfl rfl]; simp; done) | (simp [limb_1_2, Cond.value, Term.eval]; done)))⟩
