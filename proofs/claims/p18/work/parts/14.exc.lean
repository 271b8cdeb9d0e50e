/-! the calls of methods with a table, the calls that are tried, the throws -/
/-- a throw: its five instructions -/
noncomputable def jm_ok41 (m pc : Nat) (i : jm_I) : Bool :=
  let lk := g_lnk m pc
  let y := (g_m m).1
  let bc := m
  let w := i.2.2.2
  jm_dc bc pc (.new (lk.getD 0 0)) 3 && jm_dc bc (pc + 3) .dup 1 && (if w = 0 then jm_dc bc (pc + 4) (.ldc (lk.getD 1 0)) 2 else jm_dc bc (pc + 4) (.ldc_w (lk.getD 1 0)) 3 && decide (w = 1)) && jm_dc bc (pc + 6 + w) (.invokespecial (lk.getD 2 0)) 3 && jm_dc bc (pc + 9 + w) .athrow 1 &&
  decide (Cond.classLink y.cls (lk.getD 0 0) jm_NS ∈ jm_W) && decide (i.2.2.1 < g_strs.length) && decide ((jm_str i.2.2.1).1 = y.cls) && decide ((jm_str i.2.2.1).2.1 = lk.getD 1 0) &&
  decide (y.cls = "RideLaws") && decide (lk.getD 2 0 = 147)
/-- a tried call: where it goes on -/
noncomputable def jm_ok31 (m pc : Nat) (i : jm_I) : Bool :=
  let lk := g_lnk m pc
  let bc := m
  decide (0 ≤ i.2.1) && decide (lk.getD 6 0 < (g_m m).2.2.1) && jm_dc bc (lk.getD 8 0) (.astore (lk.getD 6 0)) 2 && decide (i.2.1.toNat = lk.getD 8 0 + 2) && decide (Cond.classLink (g_m m).1.cls (lk.getD 7 0) jm_NS ∈ jm_W) && decide (lk.getD 7 0 ≠ 0) && decide (jm_hh m = [(0, pc + 5, lk.getD 8 0, lk.getD 7 0)]) && !(g_wr.contains i.2.2.1)
noncomputable def jm_okx : Bool := (List.range 277).all (fun m => (List.range (16 * (jm_rows m).length)).all (fun pc => match g_code m pc with | some i => (!(decide (i.1 = 41)) || jm_ok41 m pc i) && (!(decide (i.1 = 31)) || jm_ok31 m pc i) && (!(decide (i.1 = 32)) || (decide (i.2.1 = -1) && decide (i.2.2.1 = 159 ∨ i.2.2.1 = 161 ∨ i.2.2.1 = 166))) | none => true))
theorem jm_okx_t : jm_okx = true := by decide +kernel
set_option maxRecDepth 100000 in
theorem jm_cast_t : Cond.castable jm_NS jm_NS ∈ lw_tbl := jm_t5 (List.mem_of_getElem? (i := 147) rfl)
set_option maxRecDepth 100000 in
theorem jm_ini_t : Cond.initialized jm_NS ∈ jm_W := List.mem_filter.mpr ⟨jm_t1 (List.mem_of_getElem? (i := 23) rfl), rfl⟩
theorem jm_okx_of {m pc : Nat} {i : jm_I} (h : g_code m pc = some i) : (i.1 = 41 → jm_ok41 m pc i = true) ∧ (i.1 = 31 → jm_ok31 m pc i = true) ∧ (i.1 = 32 → i.2.1 = -1 ∧ (i.2.2.1 = 159 ∨ i.2.2.1 = 161 ∨ i.2.2.1 = 166)) := by
  obtain ⟨h1, h2⟩ := jm_code_lt h
  have h3 := List.all_eq_true.mp (List.all_eq_true.mp jm_okx_t m (List.mem_range.mpr h1)) pc (List.mem_range.mpr h2)
  rw [h] at h3
  dsimp only at h3
  obtain ⟨h4, h5⟩ := Bool.and_eq_true_iff.mp h3
  obtain ⟨h6, h7⟩ := Bool.and_eq_true_iff.mp h4
  refine ⟨fun e => ?_, fun e => ?_, fun e => ?_⟩
  · rw [decide_eq_true e] at h6
    simpa using h6
  · rw [decide_eq_true e] at h7
    simpa using h7
  · rw [decide_eq_true e] at h5
    simpa using h5
noncomputable def jm_XC (D : va_G) (aC : Nat → ClassId) (ad : Nat → Nat) (fmt : Value) (h' : jm_H) : String → State → State → Prop := vx_X (fun _ : Unit => True) (fun E _ t => E = jm_NS ∧ va_P D g_cl (jm_ws aC ad fmt h'.1) t.heap) (jm_A ad)
noncomputable def jm_QX (ad : Nat → Nat) : Array Value → State → Outcome → State → Prop := va_Qi (fun _ (_ : Unit) => False) (fun _ _ => True) (jm_A ad)
section
variable {l : Launch} {D : va_G} {aC : Nat → ClassId} {ad : Nat → Nat} {fmt : Value} {sc : List Int}
theorem jm_endx {p : Program} {e : Env} {R : Room} {s : State} {mi : MethodId} {args : Array Value} {below : List Frame} {meth : Method} {c : Code} {m c0 s0 x0 dd : Nat} {h' : jm_H} {mc ms : Nat} (hl : l.stackTraces = false) (C : jm_Cx p R s mi args meth c D aC ad fmt sc m c0 x0) (hlocks : meth.locks = false) (hroom : dd + 2 ≤ R.frames ∧ (dd + 2) * 60 ≤ R.locals) (hbd : jm_cn h' ≤ c0 + R.cells ∧ jm_sl h' ≤ s0 + R.slots) (hmc : c0 + mc = jm_cn h') (hms : s0 + ms = jm_sl h') (hout : ∀ x ∈ c.exceptionTable.toList, False) :
    jm_Ends p l e R s mi args below meth c (vx_MQ below (jm_QX ad) (jm_XC D aC ad fmt h') args s mc ms (jm_A ad)) D aC ad fmt m c0 s0 x0 dd (some (9, 0)) h' := by
  intro pc i L S h ls H locs cells slots hc rel hcase
  rcases hcase with ⟨h40, hret⟩ | ⟨h41, hd10, hS8, -, hh⟩
  · rcases jm_ret_tag hret with q | ⟨z, q⟩ | ⟨z, q⟩ <;> cases q
  · subst hh
    have hok := (jm_okx_of hc).1 h41
    obtain ⟨hx, hb, hml, hown, hts, hG, hnm, hfr, hlo, hs0, htab⟩ := C
    have hf := jm_fc hG.2.2.2.2.2.2.2.2.2.2.2.2
    have hGx := hG.2.2.2.2.2.2.2.2.2.2.2.1.2
    unfold jm_ok41 at hok
    simp only [Bool.and_eq_true] at hok
    obtain ⟨⟨⟨⟨⟨⟨⟨⟨⟨⟨d0, d3⟩, d4⟩, d6⟩, d9⟩, w1⟩, w2⟩, w3⟩, w4⟩, w5⟩, w6⟩ := hok
    have q5 := rel.2.2.2.2.1
    have q6 := rel.2.2.2.2.2
    have hR := hG.2.2.1 _ (of_decide_eq_true w2)
    rw [of_decide_eq_true w3, of_decide_eq_true w4] at hR
    have hcl : (g_m m).1.cls = "RideLaws" := of_decide_eq_true w5
    have hic : (g_lnk m pc).getD 2 0 = 147 := of_decide_eq_true w6
    have hat : ∀ w ∈ jx_at (g_m m).1.cls ((g_lnk m pc).getD 2 0), w.before args s = true := by
      rw [hcl, hic]
      intro w hw
      obtain ⟨hw1, hw2⟩ := List.mem_filter.mp hw
      rcases jx_w hw1 hw2 with h2 | ⟨h3, h4⟩
      · exact hts w h2
      · split at h4
        · exact va_Nw.use rfl (hGx.2.2.1 _ _ h3)
        · exact va_Nw.use rfl (hGx.2.2.2 _ h3)
        · exact h4.elim
    have hgw : ∀ w ∈ jm_W, vx_ot w = true := fun w hw => by
      unfold vx_ot
      rw [(List.mem_filter.mp hw).2, Bool.or_true]
    have hgood : ∀ w ∈ Cond.classLink (g_m m).1.cls ((g_lnk m pc).getD 0 0) jm_NS :: Cond.initialized jm_NS :: jx_at (g_m m).1.cls ((g_lnk m pc).getD 2 0), vx_ot w = true := by
      intro w hw
      rcases List.mem_cons.mp hw with hw | hw
      · rw [hw]; exact hgw _ (of_decide_eq_true w1)
      · rcases List.mem_cons.mp hw with hw | hw
        · rw [hw]; exact hgw _ jm_ini_t
        · rw [hcl, hic] at hw
          exact List.all_eq_true.mp jx_ot w hw
    have hbc : cells + 1 ≤ R.cells ∧ slots + 6 ≤ R.slots := by
      unfold jm_cn jm_sl at *
      dsimp only at *
      omega
    have hmm : cells + 1 ≤ mc ∧ slots + 6 ≤ ms := by
      unfold jm_cn jm_sl at *
      dsimp only at *
      omega
    have hlo2 : ((S.map (jm_cv ad fmt)).map fun v => v.category).sum + (13 * (2 + 1) + 43) ≤ R.locals := by
      rw [jm_catm hf]
      show jm_cat S + (13 * (2 + 1) + 43) ≤ _
      omega
    have hfr2 : 2 + 3 < R.frames := by
      omega
    have hxx : ∀ t : State, s.vm.Alike t.vm → H.size ≤ t.heap.size → (∀ q : Nat, q < H.size → t.heap[q]? = H[q]?) → jm_XC D aC ad fmt (h.1, h.2 + 1) jm_NS s t := fun t _ g1 g2 =>
      ⟨(), trivial, ⟨rfl, rel.2.1.kept fun k q hk => g2 q.1 ((rel.2.1 k q hk).lt)⟩, Nat.le_trans rel.2.2.1.1 g1, fun q k1 k2 => (g2 q (Nat.lt_of_lt_of_le k1 rel.2.2.1.1)).trans (rel.2.2.1.2.1 q k1 k2)⟩
    by_cases hw : i.2.2.2 = 0
    · rw [hw] at d4 d6 d9
      rw [if_pos rfl] at d4
      exact jx_throwS hx hb hl hown (hts _ (of_decide_eq_true w1)) (hts _ jm_ini_t) hR hat hgood hGx.1 hGx.2.1 rel.2.2.1 (by rw [hml]; exact rel.1.1) (jm_dc_eq d0) (jm_dc_eq d3) (jm_dc_eq d4) (jm_dc_eq d6) (jm_dc_eq d9) (fun x hx => (hout x hx).elim) hfr2 hlo2 hbc.1 hbc.2 hlocks hxx rel.2.2.1.2.2 hmm.1 hmm.2
    · rw [if_neg hw] at d4
      obtain ⟨d4, hw1⟩ := Bool.and_eq_true_iff.mp d4
      rw [of_decide_eq_true hw1] at d6 d9
      exact jx_throwSW hx hb hl hown (hts _ (of_decide_eq_true w1)) (hts _ jm_ini_t) hR hat hgood hGx.1 hGx.2.1 rel.2.2.1 (by rw [hml]; exact rel.1.1) (jm_dc_eq d0) (jm_dc_eq d3) (jm_dc_eq d4) (jm_dc_eq d6) (jm_dc_eq d9) (fun x hx => (hout x hx).elim) hfr2 hlo2 hbc.1 hbc.2 hlocks hxx rel.2.2.1.2.2 hmm.1 hmm.2
theorem jm_metX {n dd m : Nat} {as : List jm_V} {h h' : jm_H} {mc ms : Nat} (hl : l.stackTraces = false) (IH : jm_P l D aC ad fmt sc n) (hm : m < 277) (hw : g_wr.contains m = false) (hex : jm_exec sc n dd m 0 (jm_args 0 as) [] h = some (some (9, 0), h')) (has : jm_cat as ≤ (g_m m).2.2.1) (hmc : jm_cn h + mc = jm_cn h') (hms : jm_sl h + ms = jm_sl h') (hfm : fmt = .null ∨ ∃ a : Nat, fmt = .ref a) :
    vx_Met l (g_m m).1 (jm_wsm m) (jm_rm dd mc ms) (va_Pc (as.map (jm_cv ad fmt)) (jm_PU D aC ad fmt sc h)) (jm_QX ad) (jm_XC D aC ad fmt h') mc ms (jm_A ad) := by
  obtain ⟨hpl, -, hml30⟩ := jm_mok_of hm
  refine vx_ofW (cc := (g_m m).2.1) (maxL := (g_m m).2.2.1) (ret := (g_m m).2.2.2) hpl rfl ?_
  intro p e s mi args below meth c s₁ B hml hnt hv
  obtain ⟨rfl, hG, hP, hsz⟩ := hv
  have hts := atoms_spec (ws := jm_wsm m) B.pre
  have hown : s.vm.findClass (g_m m).1.cls = some mi.cls := findClass_of_methodNamed B.named
  have hin : meth.name = (g_m m).1.name := (name_of_methodNamed B.named B.method).1
  have htab : c.exceptionTable.toList = tableOf (jm_hh m) := by
    rw [jm_hh_nil hw]
    cases he : c.exceptionTable.toList with
    | nil => rfl
    | cons x xs => exact (hnt x (by rw [he]; exact List.mem_cons_self)).elim
  have hf := jm_fc hfm
  have hlv := lv_entry (as.map (jm_cv ad fmt)) (n := (g_m m).2.2.1) (by rw [jm_lgsl hf]; exact has)
  rw [jm_lvargs hf] at hlv
  rw [lg_entry_eq]
  have C : jm_Cx p (headSpec (jm_wsm m) (jm_rm dd mc ms)).room s mi (as.map (jm_cv ad fmt)).toArray meth c D aC ad fmt sc m (jm_cn h) h.2 := ⟨B.exec, B.bytes, hml, hown, fun w hw => hts w (List.mem_cons_of_mem _ hw), hG, hin, show 1 ≤ dd + 2 by omega, show 60 ≤ (dd + 2) * 60 by omega, fun h0 => by rw [hsz h0]; unfold jm_cn; omega, htab⟩
  have hbd : jm_cn h' ≤ jm_cn h + (headSpec (jm_wsm m) (jm_rm dd mc ms)).room.cells ∧ jm_sl h' ≤ jm_sl h + (headSpec (jm_wsm m) (jm_rm dd mc ms)).room.slots := ⟨show _ ≤ _ + mc by omega, show _ ≤ _ + ms by omega⟩
  exact IH dd m 0 (jm_args 0 as) [] h _ h' hex p e _ s mi _ below meth c _ (jm_cn h) (jm_sl h) h.2 C ⟨Nat.le_refl _, Nat.le_refl _⟩ hbd (jm_endx hl C B.notSynchronized ⟨Nat.le_refl _, Nat.le_refl _⟩ hbd hmc hms hnt) _ s.heap [] 0 0 ⟨hlv, hP, va_S.rf, Nat.le_refl _, rfl, rfl⟩
end
