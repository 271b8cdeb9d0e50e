/-- how a method of the Java machine ends where the Int machine's does -/
noncomputable def jm_Ends (p : Program) (l : Launch) (e : Env) (R : Room) (s : State) (mi : MethodId) (args : Array Value) (below : List Frame) (meth : Method) (c : Code) (Q : State → Prop) (D : va_G) (aC : Nat → ClassId) (ad : Nat → Nat) (fmt : Value) (m c0 s0 x0 dd : Nat) (r : Option jm_V) (h' : jm_H) : Prop :=
  ∀ (pc : Nat) (i : jm_I) (L : jm_L) (S : List jm_V) (h : jm_H) (ls : Array Slot) (H : Heap) (locs : List Loc) (cells slots : Nat), g_code m pc = some i → jm_Rel D aC ad fmt s (g_m m).2.2.1 c0 s0 x0 L h ls H locs cells slots →
    ((i.1 = 40 ∧ jm_ret i S h = some (r, h')) ∨ (i.1 = 41 ∧ 10 ≤ dd ∧ jm_cat S ≤ 8 ∧ r = some (9, 0) ∧ h' = (h.1, h.2 + 1))) → W p l e R s mi args below meth c H locs cells slots Q (F0 mi pc ls (S.map (jm_cv ad fmt)))
/-- a call of a method with a table of its own, or one that is tried: shown apart -/
noncomputable def jm_P (l : Launch) (D : va_G) (aC : Nat → ClassId) (ad : Nat → Nat) (fmt : Value) (sc : List Int) (n : Nat) : Prop :=
  ∀ (dd m pc : Nat) (L : jm_L) (S : List jm_V) (h : jm_H) (r : Option jm_V) (h' : jm_H), jm_exec sc n dd m pc L S h = some (r, h') →
  ∀ (p : Program) (e : Env) (R : Room) (s : State) (mi : MethodId) (args : Array Value) (below : List Frame) (meth : Method) (c : Code) (Q : State → Prop) (c0 s0 x0 : Nat),
    jm_Cx p R s mi args meth c D aC ad fmt sc m c0 x0 → (dd + 2 ≤ R.frames ∧ (dd + 2) * 60 ≤ R.locals) → (jm_cn h' ≤ c0 + R.cells ∧ jm_sl h' ≤ s0 + R.slots) → jm_Ends p l e R s mi args below meth c Q D aC ad fmt m c0 s0 x0 dd r h' →
    ∀ (ls : Array Slot) (H : Heap) (locs : List Loc) (cells slots : Nat), jm_Rel D aC ad fmt s (g_m m).2.2.1 c0 s0 x0 L h ls H locs cells slots → W p l e R s mi args below meth c H locs cells slots Q (F0 mi pc ls (S.map (jm_cv ad fmt)))
section
variable {l : Launch} {D : va_G} {aC : Nat → ClassId} {ad : Nat → Nat} {fmt : Value} {sc : List Int}
theorem jm_narb {z : Int} (h : jm_n z = 0 ∨ jm_n z = 1) : narrow .boolean (.int (Int32.ofInt z)) = .int (Int32.ofInt z) := by
  rcases h with h | h
  · rw [show Int32.ofInt z = 0 from Int32.toInt_inj.mp h]; rfl
  · rw [show Int32.ofInt z = 1 from Int32.toInt_inj.mp h]; rfl
theorem jm_narc {z : Int} (h : 0 ≤ jm_n z) (h2 : jm_n z < 65536) : narrow .char (.int (Int32.ofInt z)) = .int (Int32.ofInt z) := by
  have e1 : Int32.ofInt z = nI (jm_n z).toNat := by
    apply Int32.toInt_inj.mp
    rw [nI_toInt (by omega)]
    show jm_n z = _
    omega
  rw [e1]
  exact (pk_charN (by omega)).1
theorem jm_mett {p : Program} {e : Env} {R : Room} {s : State} {mi : MethodId} {args : Array Value} {below : List Frame} {meth : Method} {c : Code} {m c0 s0 x0 dd : Nat} {r : Option jm_V} {h' : jm_H} {mc ms : Nat} (hx : p.tables.exec = Jvm.exec) (hb : c.code = (g_m m).2.1) (hrt : meth.sig.returnType = (g_m m).2.2.2) (hlocks : meth.locks = false) (hr : ¬ r = some (9, 0)) (hmc : c0 + mc = jm_cn h') (hms : s0 + ms = jm_sl h') :
    jm_Ends p l e R s mi args below meth c (MQ below (jm_QQ D aC ad fmt r h') args s mc ms (jm_A ad)) D aC ad fmt m c0 s0 x0 dd r h' := by
  intro pc i L S h ls H locs cells slots hc rel hcase
  rcases hcase with ⟨h40, hret⟩ | ⟨-, -, -, h9, -⟩
  · have hh := jm_ret_h hret
    subst hh
    have e1 : cells = mc := by have := rel.2.2.2.2.1; omega
    have e2 : slots = ms := by have := rel.2.2.2.2.2; omega
    subst e1; subst e2
    have hok := jm_ok_of hc
    obtain ⟨op, a, b, d⟩ := i
    dsimp only at h40
    subst h40
    have hok4 : jm_ok4 m (g_m m).2.2.2 pc (40, a, b, d) = true := hok
    clear hok
    have hF : ∀ t : State, t.heap = H → va_F (jm_A ad) s t := fun t ht => rel.2.2.1.F ht
    have hP := rel.2.1
    unfold jm_ret at hret
    dsimp only at hret
    split at hret
    · rename_i v
      split at hret
      · rename_i hc2
        cases hret
        have hok5 := Bool.and_eq_true_iff.mp hok4
        have hd := jm_dc_eq hok5.1
        have hrt2 := of_decide_eq_true hok5.2
        obtain ⟨vt, z⟩ := v
        obtain ⟨hv0, hc3⟩ := hc2
        dsimp only at hv0 hc3
        subst hv0
        have hq : ∀ t : State, t.heap = H → s.WarmedH t.vm → jm_QQ D aC ad fmt (some (0, z)) h' args s (.returned (some (.int (Int32.ofInt z)))) t := fun t ht _ => ⟨⟨Int32.ofInt z, (), rfl, rfl, by show va_P _ _ _ t.heap; rw [ht]; exact hP⟩, hF t ht⟩
        rcases hc3 with rfl | ⟨rfl, hc3⟩ | ⟨rfl, hc3⟩ | ⟨rfl, hc3⟩
        · exact W.iret hx hb (hrt.trans hrt2) hq rel.2.2.1.2.2 hd hlocks
        · exact W.zret hx hb (hrt.trans hrt2) (jm_narb hc3) hq rel.2.2.1.2.2 hd hlocks
        · exact W.zret hx hb (hrt.trans hrt2) (jm_narc hc3.1 hc3.2) hq rel.2.2.1.2.2 hd hlocks
        · refine W.zret hx hb (hrt.trans hrt2) ?_ hq rel.2.2.1.2.2 hd hlocks
          rw [show Int32.ofInt z = 0 from Int32.toInt_inj.mp hc3]; rfl
      · cases hret
    · rename_i v
      split at hret
      · rename_i hc2
        cases hret
        have hok5 := Bool.and_eq_true_iff.mp hok4
        have hd := jm_dc_eq hok5.1
        have hrt2 : (g_m m).2.2.2 = some .long := of_decide_eq_true hok5.2
        obtain ⟨vt, z⟩ := v
        dsimp only at hc2
        subst hc2
        have hq : ∀ t : State, t.heap = H → s.WarmedH t.vm → jm_QQ D aC ad fmt (some (1, z)) h' args s (.returned (some (.long (Int64.ofInt z)))) t := fun t ht _ => ⟨⟨Int64.ofInt z, (), rfl, rfl, by show va_P _ _ _ t.heap; rw [ht]; exact hP⟩, hF t ht⟩
        exact W.lret hx hb (hrt.trans hrt2) hq rel.2.2.1.2.2 hd hlocks
      · cases hret
    · cases hret
      have hok5 := Bool.and_eq_true_iff.mp hok4
      have hd := jm_dc_eq hok5.1
      have hrt2 : (g_m m).2.2.2 = none := of_decide_eq_true hok5.2
      have hq : ∀ t : State, t.heap = H → s.WarmedH t.vm → jm_QQ D aC ad fmt none h' args s (.returned none) t := fun t ht _ => ⟨⟨(), rfl, trivial, by show va_P _ _ _ t.heap; rw [ht]; exact hP⟩, hF t ht⟩
      exact W.vret hx hb (hrt.trans hrt2) hq rel.2.2.1.2.2 hd hlocks
    · cases hret
  · exact absurd h9 hr
theorem jm_hh_nil {m : Nat} (h : g_wr.contains m = false) : jm_hh m = [] := by
  have h2 : ∀ q ∈ g_hh, (q.1 == m) = false := by
    intro q hq
    have h3 : ∀ q ∈ g_hh, g_wr.contains q.1 = true := by decide +kernel
    cases hb : (q.1 == m) with
    | false => rfl
    | true =>
      have e1 : q.1 = m := by simpa using hb
      have := h3 q hq
      rw [e1, h] at this
      cases this
  unfold jm_hh
  rw [List.find?_eq_none.mpr (fun q hq => by rw [h2 q hq]; decide)]
  rfl
theorem jm_met {n dd m : Nat} {as : List jm_V} {h h' : jm_H} {r : Option jm_V} {mc ms : Nat} (IH : jm_P l D aC ad fmt sc n) (hm : m < 277) (hw : g_wr.contains m = false) (hex : jm_exec sc n dd m 0 (jm_args 0 as) [] h = some (r, h')) (hr : ¬ r = some (9, 0)) (has : jm_cat as ≤ (g_m m).2.2.1) (hmc : jm_cn h + mc = jm_cn h') (hms : jm_sl h + ms = jm_sl h') (hfm : fmt = .null ∨ ∃ a : Nat, fmt = .ref a) :
    Met l (g_m m).1 (jm_wsm m) (jm_rm dd mc ms) (va_Pc (as.map (jm_cv ad fmt)) (jm_PU D aC ad fmt sc h)) (jm_QQ D aC ad fmt r h') mc ms (jm_A ad) := by
  obtain ⟨hpl, -, hml30⟩ := jm_mok_of hm
  refine Met.ofW (cc := (g_m m).2.1) (maxL := (g_m m).2.2.1) (ret := (g_m m).2.2.2) hpl rfl ?_
  intro p e s mi args below meth c s₁ B hml hv
  obtain ⟨rfl, hG, hP, hsz⟩ := hv
  have hts := atoms_spec (ws := jm_wsm m) B.pre
  have hown : s.vm.findClass (g_m m).1.cls = some mi.cls := findClass_of_methodNamed B.named
  have hin : meth.name = (g_m m).1.name := (name_of_methodNamed B.named B.method).1
  have htab : c.exceptionTable.toList = tableOf (jm_hh m) := by
    obtain ⟨meth9, c9, h1, h2, -, -, -, -, h7, -⟩ := Cond.code_spec B.named (hts _ List.mem_cons_self)
    cases Option.some.inj (h1.symm.trans B.method)
    cases Option.some.inj (h2.symm.trans (Stand.of_body B).code)
    rw [Array.isEmpty_iff.mp h7, jm_hh_nil hw]
    rfl
  have hf := jm_fc hfm
  have hl := lv_entry (as.map (jm_cv ad fmt)) (n := (g_m m).2.2.1) (by rw [jm_lgsl hf]; exact has)
  rw [jm_lvargs hf] at hl
  rw [lg_entry_eq]
  refine IH dd m 0 (jm_args 0 as) [] h r h' hex p e _ s mi _ below meth c _ (jm_cn h) (jm_sl h) h.2 ⟨B.exec, B.bytes, hml, hown, fun w hw => hts w (List.mem_cons_of_mem _ hw), hG, hin, ?_, ?_, fun h0 => ?_, htab⟩ ⟨Nat.le_refl _, Nat.le_refl _⟩ ⟨?_, ?_⟩ (jm_mett B.exec B.bytes B.returns B.notSynchronized hr hmc hms) _ s.heap [] 0 0 ⟨hl, hP, va_S.rf, Nat.le_refl _, rfl, rfl⟩
  · show 1 ≤ dd + 2
    omega
  · show 60 ≤ (dd + 2) * 60
    omega
  · rw [hsz h0]
    unfold jm_cn
    omega
  · show _ ≤ _ + mc
    omega
  · show _ ≤ _ + ms
    omega
end
