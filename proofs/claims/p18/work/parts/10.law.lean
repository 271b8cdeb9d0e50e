set_option maxRecDepth 100000 in
theorem jm_aov : Cond.arrayOver (.object "RideLaws$State") ∈ lw_tbl := jm_t2 (List.mem_of_getElem? (i := 91) rfl)
/-! from a run of the Int machine to the law's own walk -/
noncomputable def jm_adf (a0 mo b : Nat) (adK adV : Nat → Nat) : Nat → Nat := fun j => if j = 0 then a0 else if j = 1 then mo else if j = 2 then b else if j % 2 = 0 then adK ((j - 10) / 2) else adV ((j - 11) / 2)
theorem jm_adf_K {a0 mo b : Nat} {adK adV : Nat → Nat} (k : Nat) : jm_adf a0 mo b adK adV (10 + 2 * k) = adK k := by
  unfold jm_adf
  rw [if_neg (by omega), if_neg (by omega), if_neg (by omega), if_pos (by omega)]
  congr 1
  omega
theorem jm_adf_V {a0 mo b : Nat} {adK adV : Nat → Nat} (k : Nat) : jm_adf a0 mo b adK adV (11 + 2 * k) = adV k := by
  unfold jm_adf
  rw [if_neg (by omega), if_neg (by omega), if_neg (by omega), if_neg (by omega)]
  congr 1
  omega
noncomputable def jm_iix : List Nat := [283, 291, 395, 401, 463, 551, 597, 614, 630, 659, 675, 686, 1541]
noncomputable def jm_inok : Bool := (List.range 13).all (fun ci => match g_cl[ci]? with | some r => decide (jm_at2 (jm_nth jm_iix ci 0) = some (Cond.instantiable r.1 r.2.2)) | none => true)
theorem jm_inok_t : jm_inok = true := by decide +kernel
theorem jm_inst {ci : Nat} {r : vw_C} (h : g_cl[ci]? = some r) : Cond.instantiable r.1 r.2.2 ∈ lw_tbl := by
  have hlt : ci < 13 := (List.getElem?_eq_some_iff.mp h).1
  have h1 := List.all_eq_true.mp jm_inok_t ci (List.mem_range.mpr hlt)
  rw [h] at h1
  exact jm_at2_in (of_decide_eq_true h1)
theorem jm_classes {s : State} {args : Array Value} (hts : ∀ w ∈ lw_tbl, w.before args s = true) : ∃ D : va_G, ∀ (k : Nat) (q : vw_C), g_cl[k]? = some q → u_Kn s q.1 q.2.1 q.2.2 (D.1 k) (D.2 k) := by
  have h : ∀ k : Nat, ∃ z : ClassId × (Nat → Nat), ∀ q : vw_C, g_cl[k]? = some q → u_Kn s q.1 q.2.1 q.2.2 z.1 z.2 := by
    intro k
    cases hk : g_cl[k]? with
    | none => exact ⟨(0, fun _ => 0), fun q hq => nomatch hq⟩
    | some r =>
      obtain ⟨f1, -⟩ := jm_cl_facts hk
      obtain ⟨cC, iS, hK⟩ := u_known (C := r.1) (T := r.2.1) (N := r.2.2) hts (fun w hw => (List.mem_filter.mp (f1 w hw)).1) (hts _ (jm_inst hk))
      exact ⟨(cC, iS), fun q hq => by cases hq; exact hK⟩
  exact ⟨(fun k => (Classical.choose (h k)).1, fun k => (Classical.choose (h k)).2), fun k q hq => Classical.choose_spec (h k) q hq⟩
theorem jm_arr {s : State} {args : Array Value} {ty : FieldType} (h : (Cond.arrayClass ty).before args s = true) (ht : ∀ C, ty ≠ .object C) : ∃ cA : ClassId, ArrOfT s cA ty ∧ va_RA s cA ty := by
  obtain ⟨cA, kA, comp, h1, h2, h3⟩ := Cond.arrayClass_spec (args := args) (first := s) (o := none) (s := s) (idx := []) h
  refine ⟨cA, fun n z => ⟨fun k h => (by cases h), kA, h2, comp, h3⟩, ?_⟩
  cases ty with
  | object C => exact absurd rfl (ht C)
  | _ => exact h1
theorem jm_arrs {s : State} {args : Array Value} (hts : ∀ w ∈ lw_tbl, w.before args s = true) : ∃ aC : Nat → ClassId, ∀ (k : Nat) (q : ClassId × FieldType), (jm_tys aC)[k]? = some q → ArrOfT s q.1 q.2 ∧ va_RA s q.1 q.2 := by
  have hin : ∀ w ∈ jm_W, w.before args s = true := fun w hw => hts w (List.mem_filter.mp hw).1
  obtain ⟨a0, h0⟩ := jm_arr (hin _ jm_aw0) (fun C h => by cases h)
  obtain ⟨a1, h1⟩ := jm_arr (hin _ jm_aw1) (fun C h => by cases h)
  obtain ⟨a2, h2⟩ := jm_arr (hin _ jm_aw2) (fun C h => by cases h)
  obtain ⟨a3, h3⟩ := jm_arr (hin _ jm_aw3) (fun C h => by cases h)
  have hov : (Cond.arrayOver (.object "RideLaws$State")).before args s = true := hts _ jm_aov
  obtain ⟨comp, a4, kA, g1, -, g3, g4, g5⟩ := Cond.arrayOver_spec (args := args) (first := s) (o := none) (s := s) (idx := []) hov
  refine ⟨fun k => if k = 0 then a0 else if k = 1 then a1 else if k = 2 then a2 else if k = 3 then a3 else a4, fun k q hq => ?_⟩
  match k, hq with
  | 0, hq => cases hq; exact h0
  | 1, hq => cases hq; exact h1
  | 2, hq => cases hq; exact h2
  | 3, hq => cases hq; exact h3
  | 4, hq => cases hq; exact ⟨fun n z => ⟨fun k h => (by cases h), kA, g3, comp, g4⟩, ⟨kA, comp, g3, g4, g1, g5⟩⟩
  | k + 5, hq => cases hq
noncomputable def jm_tm (k : Nat) : Term := Term.string (jm_str k).1 (jm_str k).2.1
noncomputable def jm_fl1 : List Cond := flatC (Jvm.Cond.and given_1 narrow_1)
noncomputable def jm_sok : Bool := (List.range g_strs.length).all (fun i => decide ((g_str.map List.length).getD i 0 < 2 ^ 31) && decide (Cond.exactly (jm_tm i) "java/lang/String" ∈ jm_fl1) && decide (Cond.eq (.field (jm_tm i) "java/lang/String" "coder" "B") (.int 0) ∈ jm_fl1) && decide (Cond.arrayOf (.field (jm_tm i) "java/lang/String" "value" "[B") .byte ∈ jm_fl1) && decide (Cond.eq (.length (.field (jm_tm i) "java/lang/String" "value" "[B")) (.int (Int32.ofNat ((g_str.map List.length).getD i 0))) ∈ jm_fl1) && decide (Cond.stringRef (jm_str i).1 (jm_str i).2.1 (jm_str i).2.2 ∈ lw_tbl))
theorem jm_sok_t : jm_sok = true := by decide +kernel
noncomputable def g_sb : List Nat := [36, 162, 171, 181, 193, 207, 249, 289]
noncomputable def jm_sc1 (i j : Nat) : Cond := Cond.eq (.elem (.field (jm_tm i) "java/lang/String" "value" "[B") (.int (Int32.ofNat j))) (.int (((g_str.map (List.map Int32.ofInt)).getD i []).getD j 0))
noncomputable def jm_sel (i : Nat) : Bool := decide ((jm_fl1.drop (g_sb.getD i 0)).take ((g_str.map List.length).getD i 0) = (List.range ((g_str.map List.length).getD i 0)).map (jm_sc1 i))
theorem jm_sel_0 : jm_sel 0 = true := by decide +kernel
theorem jm_sel_1 : jm_sel 1 = true := by decide +kernel
theorem jm_sel_2 : jm_sel 2 = true := by decide +kernel
theorem jm_sel_3 : jm_sel 3 = true := by decide +kernel
theorem jm_sel_4 : jm_sel 4 = true := by decide +kernel
theorem jm_sel_5 : jm_sel 5 = true := by decide +kernel
theorem jm_sel_6 : jm_sel 6 = true := by decide +kernel
theorem jm_sel_7 : jm_sel 7 = true := by decide +kernel
theorem jm_sel_of {i : Nat} (hi : i < g_strs.length) : jm_sel i = true := by
  have hi : i < 8 := hi
  match i, hi with
  | 0, _ => exact jm_sel_0
  | 1, _ => exact jm_sel_1
  | 2, _ => exact jm_sel_2
  | 3, _ => exact jm_sel_3
  | 4, _ => exact jm_sel_4
  | 5, _ => exact jm_sel_5
  | 6, _ => exact jm_sel_6
  | 7, _ => exact jm_sel_7
  | i + 8, hi => omega
theorem jm_sel_in {i j : Nat} (hi : i < g_strs.length) (hj : j < (g_str.map List.length).getD i 0) : jm_sc1 i j ∈ jm_fl1 := by
  have h1 : (jm_fl1.drop (g_sb.getD i 0)).take ((g_str.map List.length).getD i 0) = (List.range ((g_str.map List.length).getD i 0)).map (jm_sc1 i) := of_decide_eq_true (jm_sel_of hi)
  have h2 : jm_sc1 i j ∈ (List.range ((g_str.map List.length).getD i 0)).map (jm_sc1 i) := List.mem_map.mpr ⟨j, List.mem_range.mpr hj, rfl⟩
  rw [← h1] at h2
  exact List.mem_of_mem_drop (List.mem_of_mem_take h2)
noncomputable def jm_sne : Bool := (List.range g_strs.length).all (fun i => (List.range g_strs.length).all (fun j => decide (i = j) || decide (Cond.not (Cond.eq (jm_tm i) (jm_tm j)) ∈ jm_fl1) || decide (Cond.not (Cond.eq (jm_tm j) (jm_tm i)) ∈ jm_fl1)))
theorem jm_sne_t : jm_sne = true := by decide +kernel
theorem jm_fmN : Cond.isRef (.static "jdk/internal/util/Preconditions" "SIOOBE_FORMATTER" "Ljava/util/function/BiFunction;") ∈ jm_fl1 := by decide +kernel
theorem jm_Gof {s : State} {b : Nat} {sc : List Int} (hts : ∀ w ∈ lw_tbl, w.before #[Value.ref b] s = true) (hgv : (Jvm.Cond.and given_1 narrow_1).before #[Value.ref b] s = true) (hX : va_X b sc.length (fun j => Int32.ofInt (sc.getD j 0)) s s.heap) (hbl : b < s.heap.size) : ∃ (D : va_G) (aC : Nat → ClassId) (ad : Nat → Nat) (fmt : Value), ad 0 = s.heap.size ∧ ad 2 = b ∧ jm_G D aC ad fmt sc s s.heap := by
  have hfl : ∀ w ∈ jm_fl1, w.before #[Value.ref b] s = true := flat_of_before _ hgv
  have hA : ∀ a : Nat, a < s.heap.size → ¬ (fun q : Nat => s.heap.size ≤ q) a := fun a h => Nat.not_le.mpr h
  obtain ⟨D, hD⟩ := jm_classes hts
  obtain ⟨aC, haC⟩ := jm_arrs hts
  have hsk : ∀ i : Nat, i < g_strs.length → ((((((g_str.map List.length).getD i 0 < 2 ^ 31) ∧ Cond.exactly (jm_tm i) "java/lang/String" ∈ jm_fl1) ∧ Cond.eq (.field (jm_tm i) "java/lang/String" "coder" "B") (.int 0) ∈ jm_fl1) ∧ Cond.arrayOf (.field (jm_tm i) "java/lang/String" "value" "[B") .byte ∈ jm_fl1) ∧ Cond.eq (.length (.field (jm_tm i) "java/lang/String" "value" "[B")) (.int (Int32.ofNat ((g_str.map List.length).getD i 0))) ∈ jm_fl1) ∧ Cond.stringRef (jm_str i).1 (jm_str i).2.1 (jm_str i).2.2 ∈ lw_tbl := by
    intro i hi
    have h1 := List.all_eq_true.mp jm_sok_t i (List.mem_range.mpr hi)
    simp only [Bool.and_eq_true, decide_eq_true_eq] at h1
    exact h1
  have hsl : ∀ i : Nat, i < g_strs.length → ∀ j : Nat, j < (g_str.map List.length).getD i 0 → Cond.eq (.elem (.field (jm_tm i) "java/lang/String" "value" "[B") (.int (Int32.ofNat j))) (.int (((g_str.map (List.map Int32.ofInt)).getD i []).getD j 0)) ∈ jm_fl1 := by
    intro i hi j hj
    exact jm_sel_in hi hj
  have hsn : ∀ i j : Nat, i < g_strs.length → j < g_strs.length → i ≠ j → Cond.not (Cond.eq (jm_tm i) (jm_tm j)) ∈ jm_fl1 ∨ Cond.not (Cond.eq (jm_tm j) (jm_tm i)) ∈ jm_fl1 := by
    intro i j hi hj hij
    have h1 := List.all_eq_true.mp (List.all_eq_true.mp jm_sne_t i (List.mem_range.mpr hi)) j (List.mem_range.mpr hj)
    simp only [Bool.or_eq_true, decide_eq_true_eq] at h1
    rcases h1 with (h1 | h1) | h1
    · exact absurd h1 hij
    · exact Or.inl h1
    · exact Or.inr h1
  obtain ⟨adK, adV, hSt, hev⟩ := vk_Sof (args := #[Value.ref b]) (s := s) (N := g_strs.length) (tm := jm_tm) (len := g_str.map List.length) (byt := g_str.map (List.map Int32.ofInt)) (A := fun q => s.heap.size ≤ q) (fun i hi => (hsk i hi).1.1.1.1.1) (fun i hi => hfl _ (hsk i hi).1.1.1.1.2) (fun i hi => hfl _ (hsk i hi).1.1.1.2) (fun i hi => hfl _ (hsk i hi).1.1.2) (fun i hi => hfl _ (hsk i hi).1.2) (fun i hi j hj => hfl _ (hsl i hi j hj)) (fun i j hi hj hij => (hsn i j hi hj hij).imp (hfl _) (hfl _)) hA
  obtain ⟨mo, hmo, hT⟩ := va_Tof (args := #[Value.ref b]) (s := s) (tm := .static "RideLaws$Plan" "MOST_OF" "[I") (ty := .int) (N := g_most.length) (f := fun j => .int (Int32.ofInt (g_most.getD j 0))) (A := fun q => s.heap.size ≤ q) (by decide) (hfl _ (by decide +kernel)) (va_eqt (hfl _ (by decide +kernel))) (fun j hj => by
    match j, hj with
    | 0, _ => exact va_eqt (hfl _ (by decide +kernel))
    | 1, _ => exact va_eqt (hfl _ (by decide +kernel))
    | 2, _ => exact va_eqt (hfl _ (by decide +kernel))
    | 3, _ => exact va_eqt (hfl _ (by decide +kernel))
    | 4, _ => exact va_eqt (hfl _ (by decide +kernel))
    | j + 5, hj => exact absurd hj (by show ¬ j + 5 < 5; omega)) hA
  obtain ⟨fmt, hfz, hff⟩ : ∃ fmt : Value, va_Z "jdk/internal/util/Preconditions" "SIOOBE_FORMATTER" "Ljava/util/function/BiFunction;" fmt (fun q => s.heap.size ≤ q) s s.heap ∧ (fmt = .null ∨ ∃ a : Nat, fmt = .ref a) := by
    rcases va_Zqof (args := #[Value.ref b]) (C := "jdk/internal/util/Preconditions") (n := "SIOOBE_FORMATTER") (d := "Ljava/util/function/BiFunction;") (A := fun q => s.heap.size ≤ q) (hts _ (by decide +kernel)) (hts _ (by decide +kernel)) (hfl _ jm_fmN) hA with h | ⟨t, h⟩
    · exact ⟨_, h, Or.inl rfl⟩
    · exact ⟨_, h, Or.inr ⟨t, rfl⟩⟩
  refine ⟨D, aC, jm_adf s.heap.size mo b adK adV, fmt, rfl, rfl, ⟨hD, haC⟩, ?_, fun k hk => ?_, va_Zof (hts _ (by decide +kernel)) (hts _ (by decide +kernel)) (va_eqt (hfl _ (by decide +kernel))) hA, hfz, va_Zref (hts _ (by decide +kernel)) (hts _ (by decide +kernel)) hmo hA, hT, hX, hbl, Nat.le_refl _, fun a k y b' hm => va_Nw.of rfl (hts _ hm), ⟨va_AO.of (hts _ jm_aov), vx_Zqof (hts _ (by decide +kernel)) (hts _ (by decide +kernel)) (hfl _ (by decide +kernel)) hA, vx_Zqof (hts _ (by decide +kernel)) (hts _ (by decide +kernel)) (hfl _ (by decide +kernel)) hA, fun a b' hm => va_Nw.of rfl (hts _ hm), fun x hm => va_Nw.of rfl (hts _ hm)⟩, hff⟩
  · have e1 : (fun k => jm_adf s.heap.size mo b adK adV (10 + 2 * k)) = adK := funext fun k => jm_adf_K k
    have e2 : (fun k => jm_adf s.heap.size mo b adK adV (11 + 2 * k)) = adV := funext fun k => jm_adf_V k
    rw [e1, e2]
    exact hSt
  · rw [jm_adf_K]
    exact vk_R.of (hts _ (hsk k hk).2) (hev k hk)
theorem jm_ok4_0 {bm : Nat} {rt : Option FieldType} {pc d : Nat} {a : Int} (h : jm_ok4 bm rt pc (40, a, 0, d) = true) : decode (g_m bm).2.1 pc = .ok (.ireturn, 1) := jm_dc_eq (Bool.and_eq_true_iff.mp h).1
theorem jm_lawc : (g_m 276).2.1 = code := rfl
/-- the law, out of a run of the Int machine -/
theorem jm_law_open (l : Launch) (XW : ∀ (D : va_G) (aC : Nat → ClassId) (ad : Nat → Nat) (fmt : Value) (sc : List Int), jm_Xw l D aC ad fmt sc) {p : Program} {e : Env} {s : State} {m : MethodId} {below : List Frame} {meth : Method} {c : Code} {b L : Nat} {xs : Nat → Int32} (C0 : lw_At p s m meth c b L xs) (hnm : meth.name = "law") (htab : c.exceptionTable.toList = [])
    (run : ∃ (n : Nat) (h' : jm_H), jm_exec ((List.range L).map (fun j => (xs j).toInt)) n 100 276 0 [(0, (4, 2))] [] ([], 0) = some (some (0, 1), h') ∧ jm_cn h' ≤ room_1.cells ∧ jm_sl h' ≤ room_1.slots) : W p l e room_1 s m #[Value.ref b] below meth c s.heap [] 0 0 (lw_Z below #[Value.ref b] s) (entryFrame m ([Value.ref b] : List Value).toArray 7) := by
  obtain ⟨hx, hb, hr, hml, hown, hts, hX, hbl, hlocks, hgv⟩ := C0
  obtain ⟨n, h', hex, hcn, hsl⟩ := run
  have hX2 : va_X b ((List.range L).map (fun j => (xs j).toInt)).length (fun j => Int32.ofInt (((List.range L).map (fun j => (xs j).toInt)).getD j 0)) s s.heap := by
    obtain ⟨scr, g1, g2, g3, g4, g5⟩ := hX
    have hlen : ((List.range L).map (fun j => (xs j).toInt)).length = L := by rw [List.length_map, List.length_range]
    refine ⟨scr, g1, g2, g3, by rw [hlen]; exact g4, fun j hj => ?_⟩
    rw [hlen] at hj
    rw [g5 j hj]
    dsimp only
    rw [List.getD_eq_getElem?_getD, List.getElem?_map, List.getElem?_range hj]
    show _ = some (Value.int (Int32.ofInt (xs j).toInt))
    rw [jm_of32]
  obtain ⟨D, aC, ad, fmt, had0, had2, hG⟩ := jm_Gof hts hgv hX2 hbl
  have hf := jm_fc hG.2.2.2.2.2.2.2.2.2.2.2.2
  have hlv := lv_entry ([.ref b] : List Value) (n := 7) (Nat.le_of_ble_eq_true rfl)
  rw [lg_entry_eq]
  have hcl : jm_ls ad fmt [(0, ((4, 2) : jm_V))] = lv_args 0 ([.ref b] : List Value) := by
    show [(0, Value.ref (ad (2 : Int).toNat))] = [(0, Value.ref b)]
    rw [show (2 : Int).toNat = 2 from rfl, had2]
  rw [← hcl] at hlv
  have hbd : jm_cn h' ≤ 0 + room_1.cells ∧ jm_sl h' ≤ 0 + room_1.slots := by omega
  refine jm_sound (XW D aC ad fmt _) n 100 276 0 [(0, (4, 2))] [] ([], 0) (some (0, 1)) h' hex p e room_1 s m _ below meth c _ 0 0 0 ⟨hx, hb, hml, hown, fun w hw => hts w (List.mem_filter.mp hw).1, hG, hnm, by decide, by decide, fun _ => by rw [had0]; rfl, by rw [htab]; rfl⟩ ⟨by decide, by decide⟩ hbd ?_ _ s.heap [] 0 0 ⟨hlv, fun k q hq => by simp [jm_ws] at hq, va_S.rf, Nat.le_refl _, rfl, rfl⟩
  intro pc i Lx S h ls H locs cells slots hc rel hcase
  rcases hcase with ⟨h40, hret⟩ | ⟨-, -, -, h9, -⟩
  · have hh := jm_ret_h hret
    subst hh
    have hok := jm_ok_of hc
    obtain ⟨op, a, bb, d⟩ := i
    dsimp only at h40
    subst h40
    have hok4 : jm_ok4 276 (g_m 276).2.2.2 pc (40, a, bb, d) = true := hok
    clear hok
    unfold jm_ret at hret
    dsimp only at hret
    split at hret
    · rename_i v
      split at hret
      · cases hret
        have hd := jm_ok4_0 hok4
        rw [jm_lawc] at hd
        have q5 := rel.2.2.2.2.1
        have q6 := rel.2.2.2.2.2
        refine va_forget (fun q hq => by have := rel.2.2.1.2.2 q hq; unfold jm_A at this; rw [had0] at this; exact this) ?_
        refine W.widen (k := 601024) (n := 7293034) (by have : jm_cn h' ≤ 601024 := hcn; omega) (by have : jm_sl h' ≤ 7293034 := hsl; omega) ?_
        exact lw_ret hx hb hr hlocks hd
      · cases hret
    · rename_i v
      split at hret
      · rename_i hv1
        cases hret
        cases hv1
      · cases hret
    · cases hret
    · cases hret
  · cases h9
