/-! methods with a table of their own -/
noncomputable def jm_wsw (m : Nat) : List Cond := Cond.codeWith (g_m m).1 (g_m m).2.1 (g_m m).2.2.1 (g_m m).2.2.2 (jm_hh m) :: jm_W
noncomputable def jm_cwPw (m : Nat) : Prop := Cond.codeWith (g_m m).1 (g_m m).2.1 (g_m m).2.2.1 (g_m m).2.2.2 (jm_hh m) ∈ jm_W
set_option maxRecDepth 100000 in
theorem jm_cww_159 : jm_cwPw 159 := List.mem_filter.mpr ⟨List.mem_of_getElem? (i := 1200) rfl, rfl⟩
set_option maxRecDepth 100000 in
theorem jm_cww_161 : jm_cwPw 161 := List.mem_filter.mpr ⟨List.mem_of_getElem? (i := 1274) rfl, rfl⟩
set_option maxRecDepth 100000 in
theorem jm_cww_166 : jm_cwPw 166 := List.mem_filter.mpr ⟨List.mem_of_getElem? (i := 1293) rfl, rfl⟩
theorem jm_cww {m : Nat} (h : m = 159 ∨ m = 161 ∨ m = 166) : jm_cwPw m := by
  rcases h with rfl | rfl | rfl
  · exact jm_cww_159
  · exact jm_cww_161
  · exact jm_cww_166
section
variable {l : Launch} {D : va_G} {aC : Nat → ClassId} {ad : Nat → Nat} {fmt : Value} {sc : List Int}
theorem jm_metW {n dd m : Nat} {as : List jm_V} {h h' : jm_H} {r : Option jm_V} {mc ms : Nat} (IH : jm_P l D aC ad fmt sc n) (hm : m < 277) (hex : jm_exec sc n dd m 0 (jm_args 0 as) [] h = some (r, h')) (hr : ¬ r = some (9, 0)) (has : jm_cat as ≤ (g_m m).2.2.1) (hmc : jm_cn h + mc = jm_cn h') (hms : jm_sl h + ms = jm_sl h') (hfm : fmt = .null ∨ ∃ a : Nat, fmt = .ref a) :
    Met l (g_m m).1 (jm_wsw m) (jm_rm dd mc ms) (va_Pc (as.map (jm_cv ad fmt)) (jm_PU D aC ad fmt sc h)) (jm_QQ D aC ad fmt r h') mc ms (jm_A ad) := by
  obtain ⟨hpl, -, hml30⟩ := jm_mok_of hm
  refine va_MetW (cc := (g_m m).2.1) (maxL := (g_m m).2.2.1) (ret := (g_m m).2.2.2) (hh := jm_hh m) hpl rfl ?_
  intro p e s mi args below meth c s₁ B hml hv
  obtain ⟨rfl, hG, hP, hsz⟩ := hv
  have hts := atoms_spec (ws := jm_wsw m) B.pre
  have hown : s.vm.findClass (g_m m).1.cls = some mi.cls := findClass_of_methodNamed B.named
  have hin : meth.name = (g_m m).1.name := (name_of_methodNamed B.named B.method).1
  have htab : c.exceptionTable.toList = tableOf (jm_hh m) := vx_table (x := (g_m m).1) B (hts _ List.mem_cons_self)
  have hf := jm_fc hfm
  have hl := lv_entry (as.map (jm_cv ad fmt)) (n := (g_m m).2.2.1) (by rw [jm_lgsl hf]; exact has)
  rw [jm_lvargs hf] at hl
  rw [lg_entry_eq]
  refine IH dd m 0 (jm_args 0 as) [] h r h' hex p e _ s mi _ below meth c _ (jm_cn h) (jm_sl h) h.2 ⟨B.exec, B.bytes, hml, hown, fun w hw => hts w (List.mem_cons_of_mem _ hw), hG, hin, ?_, ?_, fun h0 => ?_, htab⟩ ⟨Nat.le_refl _, Nat.le_refl _⟩ ⟨?_, ?_⟩ (jm_mett B.exec B.bytes B.returns B.notSynchronized hr hmc hms) _ s.heap [] 0 0 ⟨hl, hP, va_S.rf, Nat.le_refl _, rfl, rfl⟩
  · show 1 ≤ dd + 2
    omega
  · show 60 ≤ (dd + 2) * 60
    omega
  · rw [hsz h0]
    unfold jm_cn
    omega
  · show _ ≤ _ + mc
    omega
  · show _ ≤ _ + ms
    omega
theorem jm_drop_eq (hf : fmt.category = 1) (L : jm_L) (i : Nat) : (jm_ls ad fmt L).filter (fun q => !(q.1 == i) && !(q.1 + 1 == i && q.2.category == 2)) = jm_ls ad fmt (jm_drop L i) := by
  have h1 := jm_lst1 (ad := ad) hf L i (0, 0)
  unfold jm_ls jm_st1 at h1
  rw [List.map_cons] at h1
  exact (List.cons.inj h1).2
theorem jm_XW_of (hl : l.stackTraces = false) : jm_Xw l D aC ad fmt sc := by
  intro n IH d' m pc i L S h h1 r1 hc hi hcc hex p e R s mi args below meth c Q c0 s0 x0 C hroom hbd hx9 hn9
  intro ls H locs cells slots rel
  have hok := jm_ok_of hc
  have hokx := jm_okx_of hc
  have hle := jm_exec_le n hex
  obtain ⟨op, a, b, k⟩ := i
  dsimp only at hi hcc hex hx9 hn9 hokx
  have hok3 : jm_ok3 (g_lnk m pc) (g_m m).1 m pc (op, a, b, k) = true := by
    unfold jm_ok at hok
    dsimp only at hok
    rw [if_neg (by omega), if_neg (by omega), if_pos (by omega)] at hok
    exact hok
  obtain ⟨mc, hmc⟩ : ∃ mc, jm_cn h + mc = jm_cn h1 := ⟨jm_cn h1 - jm_cn h, by have := (jm_le_cn hle).1; omega⟩
  obtain ⟨ms, hms⟩ : ∃ ms, jm_sl h + ms = jm_sl h1 := ⟨jm_sl h1 - jm_sl h, by have := (jm_le_cn hle).2; omega⟩
  have hcells : cells + mc ≤ R.cells ∧ slots + ms ≤ R.slots := by
    have q5 := rel.2.2.2.2.1
    have q6 := rel.2.2.2.2.2
    omega
  rcases hi with rfl | rfl
  · -- tried
    have hok31 := hokx.2.1 rfl
    unfold jm_ok31 at hok31
    simp only [Bool.and_eq_true, Bool.not_eq_true'] at hok31
    obtain ⟨⟨⟨⟨⟨⟨⟨t1, t2⟩, t3⟩, t4⟩, t5⟩, t6⟩, t7⟩, t8⟩ := hok31
    have ha0 : 0 ≤ a := of_decide_eq_true t1
    obtain ⟨hbN, hv⟩ := Bool.and_eq_true_iff.mp (show (decide (b < g_N) && (if a = -1 then _ else _)) = true from hok3)
    have hb278 : b < 277 := of_decide_eq_true hbN
    rw [if_neg (show ¬ a = -1 by omega), if_neg (show ¬ a = -2 by omega), if_neg (show ¬ a = -3 by omega)] at hv
    have hcc' : jm_cc m pc (30, 10 + ((g_lnk m pc).getD 5 0 : Int), b, k) S h := hcc
    have hok30 : jm_ok3 (g_lnk m pc) (g_m m).1 m pc (30, 10 + ((g_lnk m pc).getD 5 0 : Int), b, k) = true := by
      refine Bool.and_eq_true_iff.mpr ⟨hbN, ?_⟩
      dsimp only
      rw [if_neg (by omega), if_neg (by omega), if_neg (by omega)]
      obtain ⟨v1, v2⟩ := Bool.and_eq_true_iff.mp hv
      refine Bool.and_eq_true_iff.mpr ⟨v1, ?_⟩
      rw [if_pos rfl] at v2
      rw [if_neg (by decide), if_neg (by omega)]
      refine Bool.and_eq_true_iff.mpr ⟨decide_eq_true (by omega), ?_⟩
      rw [show (10 + ((g_lnk m pc).getD 5 0 : Int) - 10).toNat = (g_lnk m pc).getD 5 0 by omega]
      exact v2
    by_cases hr9 : r1 = some (9, 0)
    · subst hr9
      obtain ⟨-, nx⟩ := hx9 rfl
      refine jm_Wsz fun hz => ?_
      have hpre := fun (as : List Value) => jm_pre C rel hz (as := as)
      obtain ⟨hx, hb, hml, hown, hts, hG, hnm, hfr, hlo, hs0, htab⟩ := C
      have hfm := hG.2.2.2.2.2.2.2.2.2.2.2.2
      have hf := jm_fc hfm
      have hGx := hG.2.2.2.2.2.2.2.2.2.2.2.1.2
      obtain ⟨k1, k2, k3, k4⟩ := hcc
      dsimp only at k1 k2 k3 k4
      rw [if_pos rfl] at k4
      have has : jm_cat (S.take k).reverse ≤ (g_m b).2.2.1 := by
        have : jm_cat (S.take k).reverse = jm_cat (S.take k) := by unfold jm_cat; rw [List.map_reverse, List.sum_reverse]
        omega
      have hM := jm_metX hl IH hb278 t8 hex has hmc hms hfm
      obtain ⟨-, hcls, hml30⟩ := jm_mok_of hb278
      have hR : (jm_rm d' mc ms).frames + 1 ≤ R.frames ∧ 8 + ((g_m b).2.2.1 + 11) + (jm_rm d' mc ms).locals ≤ R.locals := by
        unfold jm_rm
        dsimp only
        omega
      have hst : S.map (jm_cv ad fmt) = ((S.take k).reverse.map (jm_cv ad fmt)).reverse ++ (S.drop k).map (jm_cv ad fmt) := by
        rw [← List.map_reverse, List.reverse_reverse, ← List.map_append, List.take_append_drop]
      have hW8 : 2 * (F0 mi pc ls (S.map (jm_cv ad fmt))).monitorRoom + (((S.drop k).map (jm_cv ad fmt)).map fun v => v.category).sum ≤ 8 := by
        rw [jm_catm hf]
        show 2 * 0 + _ ≤ 8
        omega
      have hlen : (S.take k).reverse.length = k := by rw [List.length_reverse, List.length_take]; omega
      simp only [Bool.and_eq_true] at hv
      obtain ⟨⟨⟨⟨⟨⟨⟨o1, o2⟩, o3⟩, o4⟩, o5⟩, o6⟩, o7⟩, o8⟩ := hv
      have o7 := jm_npk_e o7
      rw [if_pos trivial] at o8
      have hk1 : 1 ≤ k := of_decide_eq_true o6
      cases hrev : (S.take k).reverse with
      | nil => rw [hrev] at hlen; simp at hlen; omega
      | cons o As =>
        rw [hrev] at k4 hM hst hlen
        rw [List.map_cons] at hM
        rw [List.map_cons, List.reverse_cons, List.append_assoc, List.singleton_append] at hst
        rw [List.length_cons] at hlen
        have hlen2 : (As.map (jm_cv ad fmt)).length = k - 1 := by rw [List.length_map]; omega
        have k4' : (if (10 + ((g_lnk m pc).getD 5 0 : Int)) = -1 then true else if (10 + ((g_lnk m pc).getD 5 0 : Int)) = -2 ∨ (10 + ((g_lnk m pc).getD 5 0 : Int)) = -3 then decide (o.1 = 2 ∧ 0 ≤ o.2) else if (10 + ((g_lnk m pc).getD 5 0 : Int)) = 5 then decide (o.1 = 4 ∧ 10 ≤ o.2 ∧ o.2 < 10 + 2 * g_str.length ∧ o.2 % 2 = 0) else match o.1, jm_cell h o.2 with
          | 2, some c => decide ((c.1 : Int) = (10 + ((g_lnk m pc).getD 5 0 : Int)))
          | _, _ => false) = true := k4
        rw [if_neg (by omega), if_neg (by omega), if_neg (by omega)] at k4'
        have hgood : GoodIn jm_W (wsV (g_m m).1.cls ((g_lnk m pc).getD 0 0) (g_m b).1.cls (g_m b).1 (jm_wsm b)) := by
          refine jm_good fun w hw => ?_
          unfold wsV at hw
          rcases List.mem_append.mp hw with hw | hw
          · simp only [List.mem_cons, List.not_mem_nil, or_false] at hw
            rcases hw with rfl | rfl | rfl | rfl
            · exact jm_w_in o2
            · exact jm_w_in o3
            · exact jm_w_in o4
            · exact jm_w_in o5
          · exact jm_wsm_in hb278 t8 w hw
        have cw := cwV (R := R) (rm := jm_rm d' mc ms) (k - 1) hts hgood rfl rfl rfl ⟨rfl, hcls.1, hcls.2, of_decide_eq_true o7⟩ hR
        split at k4'
        · rename_i c2 ho hcl
          have hka : (c2.1 : Int) = 10 + ((g_lnk m pc).getD 5 0 : Int) := of_decide_eq_true k4'
          obtain ⟨g0, g1, g2⟩ := jm_cellw (aC := aC) (ad := ad) (fmt := fmt) hcl
          rw [jm_cv2 ho g0] at hM hst
          have hk2 : c2.1 = 10 + (g_lnk m pc).getD 5 0 := by omega
          rw [jm_ce_obj hk2] at g2
          have hcn : (g_cl[(g_lnk m pc).getD 5 0]?).map (fun r => r.1) = some (g_m b).1.cls := of_decide_eq_true o8
          cases hr : g_cl[(g_lnk m pc).getD 5 0]? with
          | none => rw [hr] at hcn; cases hcn
          | some rr =>
            rw [hr] at hcn
            have hcn2 : rr.1 = (g_m b).1.cls := Option.some.inj hcn
            have hrun := vx_runV (e := e) (below := below) (meth := meth) (locs := locs) (Ts := jm_W) (As := As.map (jm_cv ad fmt)) (rest := (S.drop k).map (jm_cv ad fmt)) (g := F0 mi pc ls (S.map (jm_cv ad fmt))) ⟨hx, hb, hml, hown, hts⟩ hM cw ⟨jm_blind, by rw [← hcn2]; exact va_recv hG.1 rel.2.1 hr g2, hpre _⟩ rfl hlen2 rel.1.1 hst hW8 (jm_dc_eq o1) hcells
            refine vx_calli (a := (Value.ref (ad 0 + o.2.toNat) :: As.map (jm_cv ad fmt)).toArray) hrun rel.2.2.1 (fun q _ z => z) (fun q z => z) (fun q _ z => z) (fun E ce q9 u t H1 locs1 ht _ _ hB hzz _ hS1 hce hcv hfc => ?_) (fun rr u t H1 locs1 ht _ hp hB _ _ hS => hp.elim)
            obtain ⟨rfl, hP1⟩ := hB
            rw [ht] at hP1
            have hhh : jm_hh m = [(0, pc + 5, (g_lnk m pc).getD 8 0, (g_lnk m pc).getD 7 0)] := of_decide_eq_true t7
            refine vx_catch (name := jm_NS) hown [] ⟨0, pc + 5, (g_lnk m pc).getD 8 0, (g_lnk m pc).getD 7 0⟩ [] (by rw [htab, hhh]; rfl) (fun z hz => nomatch hz) (by unfold covers; simp) (of_decide_eq_true t6) (hts _ (of_decide_eq_true t5)) (va_Nw.use rfl (hGx.2.2.1 _ _ jm_cast_t)) hce hcv hfc ?_
            refine lv_astore hx hb (jm_dc_eq t3) rel.1 (of_decide_eq_true t2) rfl (fun ls' hl' => ?_)
            have nx' := nx ls' H1 locs1 (cells + mc) (slots + ms) ⟨⟨hl'.1, hl'.2.1, fun q hq => hl'.2.2 q (List.mem_cons_of_mem _ (by rw [jm_drop_eq hf]; exact hq))⟩, hP1, hS1, Nat.le_trans rel.2.2.2.1 hle.2.2, by have := rel.2.2.2.2.1; omega, by have := rel.2.2.2.2.2; omega⟩
            have t4' : a.toNat = (g_lnk m pc).getD 8 0 + 2 := of_decide_eq_true t4
            rw [t4'] at nx'
            exact nx'
        · cases k4'
    · exact jm_call C rel rfl hok30 t8 hroom hcc' IH hex hr9 (jm_exec_ret n hex hr9) hbd (hn9 hr9)
  · -- a method with a table
    have hr9 : ¬ r1 = some (9, 0) := fun q => by have := (hx9 q).1; omega
    have nx := hn9 hr9
    obtain ⟨ha1, hb3⟩ := hokx.2.2 rfl
    refine jm_Wsz fun hz => ?_
    have hpre := fun (as : List Value) => jm_pre C rel hz (as := as)
    obtain ⟨hx, hb, hml, hown, hts, hG, hnm, hfr, hlo, hs0, htab⟩ := C
    have hfm := hG.2.2.2.2.2.2.2.2.2.2.2.2
    have hf := jm_fc hfm
    obtain ⟨k1, k2, k3, k4⟩ := hcc
    dsimp only at k1 k2 k3 k4
    obtain ⟨hbN, hv⟩ := Bool.and_eq_true_iff.mp (show (decide (b < g_N) && (if a = -1 then _ else _)) = true from hok3)
    have hb278 : b < 277 := of_decide_eq_true hbN
    rw [if_pos ha1] at hv
    simp only [Bool.and_eq_true] at hv
    obtain ⟨⟨⟨⟨o1, o2⟩, o3⟩, o4⟩, o5⟩ := hv
    have o5 := jm_npk_e o5
    have has : jm_cat (S.take k).reverse ≤ (g_m b).2.2.1 := by
      have : jm_cat (S.take k).reverse = jm_cat (S.take k) := by unfold jm_cat; rw [List.map_reverse, List.sum_reverse]
      omega
    have hM := jm_metW IH hb278 hex hr9 has hmc hms hfm
    obtain ⟨-, hcls, hml30⟩ := jm_mok_of hb278
    have hR : (jm_rm d' mc ms).frames + 1 ≤ R.frames ∧ 8 + ((g_m b).2.2.1 + 11) + (jm_rm d' mc ms).locals ≤ R.locals := by
      unfold jm_rm
      dsimp only
      omega
    have hst : S.map (jm_cv ad fmt) = ((S.take k).reverse.map (jm_cv ad fmt)).reverse ++ (S.drop k).map (jm_cv ad fmt) := by
      rw [← List.map_reverse, List.reverse_reverse, ← List.map_append, List.take_append_drop]
    have hW8 : 2 * (F0 mi pc ls (S.map (jm_cv ad fmt))).monitorRoom + (((S.drop k).map (jm_cv ad fmt)).map fun v => v.category).sum ≤ 8 := by
      rw [jm_catm hf]
      show 2 * 0 + _ ≤ 8
      omega
    have hlen : (S.take k).reverse.length = k := by rw [List.length_reverse, List.length_take]; omega
    have hwsw : ∀ w ∈ jm_wsw b, w ∈ jm_W := by
      intro w hw
      rcases List.mem_cons.mp hw with hw | hw
      · rw [hw]; exact jm_cww hb3
      · exact hw
    refine jm_after (jm_exec_ret n hex hr9) (vx_runSW (Ts := jm_W) (As := (S.take k).reverse.map (jm_cv ad fmt)) ⟨hx, hb, hml, hown, hts⟩ hM (vx_cwSW k hts (jm_good ?_) rfl rfl rfl ⟨hcls.1, hcls.2, of_decide_eq_true o5⟩ hR) ⟨jm_blind, hpre _⟩ rfl (by rw [List.length_map]; exact hlen) rel.1.1 hst hW8 (jm_dc_eq o1) hcells) rel hle hmc hms nx
    intro w hw
    unfold va_wsS at hw
    rcases List.mem_append.mp hw with hw | hw
    · simp only [List.mem_cons, List.not_mem_nil, or_false] at hw
      rcases hw with rfl | rfl | rfl
      · exact jm_w_in o2
      · exact jm_w_in o3
      · exact jm_w_in o4
    · exact hwsw w hw
theorem jm_snd (hl : l.stackTraces = false) (n : Nat) : jm_P l D aC ad fmt sc n := jm_sound (jm_XW_of hl) n
end
