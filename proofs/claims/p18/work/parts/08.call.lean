theorem jm_good {ws : List Cond} (h : ∀ w ∈ ws, w ∈ jm_W) : GoodIn jm_W ws := fun w hw => ⟨h w hw, good_of_word (List.mem_filter.mp (h w hw)).2⟩
theorem jm_wsm_in {m : Nat} (hm : m < 277) (hw : g_wr.contains m = false) : ∀ w ∈ jm_wsm m, w ∈ jm_W := by
  intro w h
  rcases List.mem_cons.mp h with h | h
  · rw [h]; exact jm_cw_of hm hw
  · exact h
section
variable {p : Program} {l : Launch} {e : Env} {R : Room} {s : State} {mi : MethodId} {args : Array Value} {below : List Frame} {meth : Method} {c : Code} {Q : State → Prop}
variable {D : va_G} {aC : Nat → ClassId} {ad : Nat → Nat} {fmt : Value} {sc : List Int} {m c0 s0 x0 : Nat}
variable {pc pc' : Nat} {L L' : jm_L} {S S' : List jm_V} {h h' : jm_H} {ls : Array Slot} {H : Heap} {locs : List Loc} {cells slots : Nat}
theorem jm_after {r1 : Option jm_V} {h1 : jm_H} {X : Array Value} {mc ms : Nat} {rest : List jm_V} {st0 : List Value} (hr1 : r1 = none ∨ (∃ z, r1 = some (0, z)) ∨ (∃ z, r1 = some (1, z)))
    (hr : va_Run p l e R s mi args below meth c H locs cells slots mc ms (F0 mi pc ls st0) (rest.map (jm_cv ad fmt)) (jm_QQ D aC ad fmt r1 h1 X) (jm_A ad)) (rel : jm_Rel D aC ad fmt s (g_m m).2.2.1 c0 s0 x0 L h ls H locs cells slots) (hle : jm_le h h1) (hmc : jm_cn h + mc = jm_cn h1) (hms : jm_sl h + ms = jm_sl h1)
    (nx : jm_Nx p l e R s mi args below meth c Q D aC ad fmt (g_m m).2.2.1 c0 s0 x0 (pc + 3) L (r1.toList ++ rest) h1) : W p l e R s mi args below meth c H locs cells slots Q (F0 mi pc ls st0) := by
  obtain ⟨q1, q2, q3, q4, q5, q6⟩ := rel
  have fin : ∀ (t : State) (H1 : Heap) (locs1 : List Loc), t.heap = H1 → va_P D g_cl (jm_ws aC ad fmt h1.1) t.heap → va_S (jm_A ad) s.heap H1 locs1 → jm_Rel D aC ad fmt s (g_m m).2.2.1 c0 s0 x0 L h1 ls H1 locs1 (cells + mc) (slots + ms) := by
    intro t H1 locs1 ht hP hS
    rw [ht] at hP
    exact ⟨q1, hP, hS, Nat.le_trans q4 hle.2.2, by omega, by omega⟩
  rcases hr1 with rfl | ⟨z, rfl⟩ | ⟨z, rfl⟩
  · exact va_callv (a := X) hr q3 (fun q _ z => z) (fun q z => z) (fun u t H1 locs1 ht _ _ hB _ _ hS => nx ls H1 locs1 _ _ (fin t H1 locs1 ht hB hS))
  · refine va_calli (a := X) hr q3 (fun q _ z => z) (fun q z => z) (fun rr u t H1 locs1 ht _ hp hB _ _ hS => ?_)
    have hp : rr = Int32.ofInt z := hp
    subst hp
    exact nx ls H1 locs1 _ _ (fin t H1 locs1 ht hB hS)
  · refine va_calll (a := X) hr q3 (fun q _ z => z) (fun q z => z) (fun rr u t H1 locs1 ht _ hp hB _ _ hS => ?_)
    have hp : rr = Int64.ofInt z := hp
    subst hp
    exact nx ls H1 locs1 _ _ (fin t H1 locs1 ht hB hS)
theorem jm_pre (C : jm_Cx p R s mi args meth c D aC ad fmt sc m c0 x0) (rel : jm_Rel D aC ad fmt s (g_m m).2.2.1 c0 s0 x0 L h ls H locs cells slots) (hz : H.size ≤ s.heap.size + cells) {as : List Value} : ∀ U : State, U.heap = H → s.WarmedH U.vm → va_Pc as (jm_PU D aC ad fmt sc h) as.toArray U := by
  intro U hU hW
  obtain ⟨hx, hb, hml, hown, hts, hG, hnm, hfr, hlo, hs0, htab⟩ := C
  have hG0 : ad 0 ≤ s.heap.size := hG.2.2.2.2.2.2.2.2.2.1
  refine ⟨rfl, jm_G_at hG rel.2.2.1 hW hU, by rw [hU]; exact rel.2.1, fun h2 => ?_⟩
  rw [hU]
  exact jm_szeq hs0 hG0 rel h2 hz
theorem jm_call {i : jm_I} {d' n : Nat} {r1 : Option jm_V} {h1 : jm_H} (C : jm_Cx p R s mi args meth c D aC ad fmt sc m c0 x0) (rel : jm_Rel D aC ad fmt s (g_m m).2.2.1 c0 s0 x0 L h ls H locs cells slots) (hi : i.1 = 30) (hok : jm_ok3 (g_lnk m pc) (g_m m).1 m pc i = true) (hwr : g_wr.contains i.2.2.1 = false)
    (hroom : d' + 3 ≤ R.frames ∧ (d' + 3) * 60 ≤ R.locals) (hcc : jm_cc m pc i S h) (IH : jm_P l D aC ad fmt sc n) (hex : jm_exec sc n d' i.2.2.1 0 (jm_args 0 (S.take i.2.2.2).reverse) [] h = some (r1, h1)) (hr9 : ¬ r1 = some (9, 0)) (hr1 : r1 = none ∨ (∃ z, r1 = some (0, z)) ∨ (∃ z, r1 = some (1, z)))
    (hbd : jm_cn h1 ≤ c0 + R.cells ∧ jm_sl h1 ≤ s0 + R.slots)
    (nx : jm_Nx p l e R s mi args below meth c Q D aC ad fmt (g_m m).2.2.1 c0 s0 x0 (pc + 3) L (r1.toList ++ S.drop i.2.2.2) h1) : W p l e R s mi args below meth c H locs cells slots Q (F0 mi pc ls (S.map (jm_cv ad fmt))) := by
  refine jm_Wsz fun hz => ?_
  have hpre := fun (as : List Value) => jm_pre C rel hz (as := as)
  obtain ⟨hx, hb, hml, hown, hts, hG, hnm, hfr, hlo, hs0, htab⟩ := C
  have hfm := hG.2.2.2.2.2.2.2.2.2.2.2.2
  have hf := jm_fc hfm
  obtain ⟨op, a, b, k⟩ := i
  dsimp only at hi hwr hcc hex nx
  subst hi
  obtain ⟨k1, k2, k3, k4⟩ := hcc
  dsimp only at k1 k2 k3 k4
  have hle := jm_exec_le n hex
  obtain ⟨mc, hmc⟩ : ∃ mc, jm_cn h + mc = jm_cn h1 := ⟨jm_cn h1 - jm_cn h, by have := (jm_le_cn hle).1; omega⟩
  obtain ⟨ms, hms⟩ : ∃ ms, jm_sl h + ms = jm_sl h1 := ⟨jm_sl h1 - jm_sl h, by have := (jm_le_cn hle).2; omega⟩
  have hcells : cells + mc ≤ R.cells ∧ slots + ms ≤ R.slots := by
    have q5 := rel.2.2.2.2.1
    have q6 := rel.2.2.2.2.2
    omega
  have hok2 : (decide (b < g_N) && (if a = -1 then _ else _)) = true := hok
  obtain ⟨hbN, hok3⟩ := Bool.and_eq_true_iff.mp hok2
  have hb278 : b < 277 := of_decide_eq_true hbN
  clear hok hok2
  have has : jm_cat (S.take k).reverse ≤ (g_m b).2.2.1 := by
    have : jm_cat (S.take k).reverse = jm_cat (S.take k) := by unfold jm_cat; rw [List.map_reverse, List.sum_reverse]
    omega
  have hM := jm_met IH hb278 hwr hex hr9 has hmc hms hfm
  obtain ⟨-, hcls, hml30⟩ := jm_mok_of hb278
  have hR : (jm_rm d' mc ms).frames + 1 ≤ R.frames ∧ 8 + ((g_m b).2.2.1 + 11) + (jm_rm d' mc ms).locals ≤ R.locals := by
    unfold jm_rm
    dsimp only
    omega
  have hst : S.map (jm_cv ad fmt) = ((S.take k).reverse.map (jm_cv ad fmt)).reverse ++ (S.drop k).map (jm_cv ad fmt) := by
    rw [← List.map_reverse, List.reverse_reverse, ← List.map_append, List.take_append_drop]
  have hW8 : 2 * (F0 mi pc ls (S.map (jm_cv ad fmt))).monitorRoom + (((S.drop k).map (jm_cv ad fmt)).map fun v => v.category).sum ≤ 8 := by
    rw [jm_catm hf]
    show 2 * 0 + _ ≤ 8
    omega
  have hGs := jm_good (jm_wsm_in hb278 hwr)
  have hlen : (S.take k).reverse.length = k := by rw [List.length_reverse, List.length_take]; omega
  rw [if_neg (by decide)] at k4
  by_cases ha1 : a = -1
  · rw [if_pos ha1] at hok3
    simp only [Bool.and_eq_true] at hok3
    obtain ⟨⟨⟨⟨o1, o2⟩, o3⟩, o4⟩, o5⟩ := hok3
    have o5 := jm_npk_e o5
    refine jm_after hr1 (va_runS (Ts := jm_W) (As := (S.take k).reverse.map (jm_cv ad fmt)) ⟨hx, hb, hml, hown, hts⟩ hM (va_cwS k hts (jm_good ?_) rfl rfl rfl ⟨hcls.1, hcls.2, of_decide_eq_true o5⟩ hR) ⟨jm_blind, hpre _⟩ rfl (by rw [List.length_map]; exact hlen) rel.1.1 hst hW8 (jm_dc_eq o1) hcells) rel hle hmc hms nx
    intro w hw
    unfold va_wsS at hw
    rcases List.mem_append.mp hw with hw | hw
    · simp only [List.mem_cons, List.not_mem_nil, or_false] at hw
      rcases hw with rfl | rfl | rfl
      · exact jm_w_in o2
      · exact jm_w_in o3
      · exact jm_w_in o4
    · exact jm_wsm_in hb278 hwr w hw
  · rw [if_neg ha1] at hok3
    cases hrev : (S.take k).reverse with
    | nil => rw [hrev] at k4; exact absurd (of_decide_eq_true k4) ha1
    | cons o As =>
      rw [hrev] at k4 hM hst hlen
      rw [List.map_cons] at hM
      rw [List.map_cons, List.reverse_cons, List.append_assoc, List.singleton_append] at hst
      have k4' : (if a = -1 then true else if a = -2 ∨ a = -3 then decide (o.1 = 2 ∧ 0 ≤ o.2) else if a = 5 then decide (o.1 = 4 ∧ 10 ≤ o.2 ∧ o.2 < 10 + 2 * g_str.length ∧ o.2 % 2 = 0) else match o.1, jm_cell h o.2 with
        | 2, some c => decide ((c.1 : Int) = a)
        | _, _ => false) = true := k4
      rw [if_neg ha1] at k4'
      rw [List.length_cons] at hlen
      have hlen2 : (As.map (jm_cv ad fmt)).length = k - 1 := by rw [List.length_map]; omega
      by_cases ha2 : a = -2
      · rw [if_pos ha2] at hok3
        rw [if_pos (Or.inl ha2)] at k4'
        have ho := of_decide_eq_true k4'
        rw [jm_cv2 ho.1 ho.2] at hM hst
        simp only [Bool.and_eq_true] at hok3
        obtain ⟨⟨⟨⟨⟨⟨⟨o1, o2⟩, o3⟩, o4⟩, o5⟩, o6⟩, o7⟩, o8⟩ := hok3
        have o8 := jm_npk_e o8
        have hrt : (g_m b).2.2.2 = none := of_decide_eq_true o6
        have hwsm : jm_wsm b = Cond.code (g_m b).1 (g_m b).2.1 (g_m b).2.2.1 none :: jm_W := by unfold jm_wsm; rw [hrt]
        exact jm_after hr1 (va_runI (Ts := jm_W) (As := As.map (jm_cv ad fmt)) ⟨hx, hb, hml, hown, hts⟩ hM (cwI (k - 1) hts hGs hwsm rfl rfl (hts _ (jm_w_in o4)) (hts _ (jm_w_in o2)) (hts _ (jm_w_in o3)) (of_decide_eq_true o5) ⟨hcls.1, hcls.2, of_decide_eq_true o8⟩ hR) ⟨jm_blind, hpre _⟩ rfl hlen2 rel.1.1 hst hW8 (jm_dc_eq o1) hcells) rel hle hmc hms nx
      · rw [if_neg ha2] at hok3
        by_cases ha3 : a = -3
        · rw [if_pos ha3] at hok3
          rw [if_pos (Or.inr ha3)] at k4'
          have ho := of_decide_eq_true k4'
          rw [jm_cv2 ho.1 ho.2] at hM hst
          simp only [Bool.and_eq_true] at hok3
          obtain ⟨⟨⟨⟨⟨⟨⟨o1, o2⟩, o3⟩, o4⟩, o5⟩, o6⟩, o7⟩, o8⟩ := hok3
          have o8 := jm_npk_e o8
          have hrt : (g_m b).2.2.2 = none := of_decide_eq_true o6
          have hwsm : jm_wsm b = Cond.code (g_m b).1 (g_m b).2.1 (g_m b).2.2.1 none :: jm_W := by unfold jm_wsm; rw [hrt]
          have hnest := hG.2.2.2.2.2.2.2.2.2.2.1 _ _ _ _ (jm_at2_in (of_decide_eq_true o2))
          exact jm_after hr1 (va_runIN (Ts := jm_W) (As := As.map (jm_cv ad fmt)) ⟨hx, hb, hml, hown, hts⟩ hM ⟨va_cnB (k - 1) hts hGs hwsm rfl rfl hnest (hts _ (jm_w_in o4)) ⟨hcls.1, hcls.2, of_decide_eq_true o8⟩ hR, of_decide_eq_true o5, hts _ (jm_w_in o3)⟩ ⟨jm_blind, hpre _⟩ rfl hlen2 rel.1.1 hst hW8 (jm_dc_eq o1) hcells) rel hle hmc hms nx
        · rw [if_neg ha3] at hok3
          rw [if_neg (by omega)] at k4'
          simp only [Bool.and_eq_true] at hok3
          obtain ⟨⟨⟨⟨⟨⟨⟨o1, o2⟩, o3⟩, o4⟩, o5⟩, o6⟩, o7⟩, o8⟩ := hok3
          have o7 := jm_npk_e o7
          rw [if_neg (by decide)] at o8
          have hgood : GoodIn jm_W (wsV (g_m m).1.cls ((g_lnk m pc).getD 0 0) (g_m b).1.cls (g_m b).1 (jm_wsm b)) := by
            refine jm_good fun w hw => ?_
            unfold wsV at hw
            rcases List.mem_append.mp hw with hw | hw
            · simp only [List.mem_cons, List.not_mem_nil, or_false] at hw
              rcases hw with rfl | rfl | rfl | rfl
              · exact jm_w_in o2
              · exact jm_w_in o3
              · exact jm_w_in o4
              · exact jm_w_in o5
            · exact jm_wsm_in hb278 hwr w hw
          have cw := cwV (R := R) (rm := jm_rm d' mc ms) (k - 1) hts hgood rfl rfl rfl ⟨rfl, hcls.1, hcls.2, of_decide_eq_true o7⟩ hR
          by_cases ha5 : a = 5
          · rw [if_pos ha5] at k4' o8
            have ho := of_decide_eq_true k4'
            obtain ⟨j, j1, j2, j3⟩ := jm_strix ho.2.1 ho.2.2.1 ho.2.2.2
            rw [jm_cv4 ho.1, j2] at hM hst
            have hcs : (g_m b).1.cls = "java/lang/String" := of_decide_eq_true o8
            have hrv := vk_recv (i := j) hG.2.1 j1 rel.2.2.1
            exact jm_after hr1 (va_runV (Ts := jm_W) (As := As.map (jm_cv ad fmt)) ⟨hx, hb, hml, hown, hts⟩ hM cw ⟨jm_blind, by rw [hcs]; exact hrv, hpre _⟩ rfl hlen2 rel.1.1 hst hW8 (jm_dc_eq o1) hcells) rel hle hmc hms nx
          · rw [if_neg ha5] at k4' o8
            split at k4'
            · rename_i c2 ho hcl
              have hka : (c2.1 : Int) = a := of_decide_eq_true k4'
              obtain ⟨o9, o10⟩ := Bool.and_eq_true_iff.mp o8
              have h10 : 10 ≤ a := of_decide_eq_true o9
              obtain ⟨g0, g1, g2⟩ := jm_cellw (aC := aC) (ad := ad) (fmt := fmt) hcl
              rw [jm_cv2 ho g0] at hM hst
              have hk2 : c2.1 = 10 + (a - 10).toNat := by omega
              rw [jm_ce_obj hk2] at g2
              have hcn : (g_cl[(a - 10).toNat]?).map (fun r => r.1) = some (g_m b).1.cls := of_decide_eq_true o10
              cases hr : g_cl[(a - 10).toNat]? with
              | none => rw [hr] at hcn; cases hcn
              | some rr =>
                rw [hr] at hcn
                have hcn2 : rr.1 = (g_m b).1.cls := Option.some.inj hcn
                exact jm_after hr1 (va_runV (Ts := jm_W) (As := As.map (jm_cv ad fmt)) ⟨hx, hb, hml, hown, hts⟩ hM cw ⟨jm_blind, by rw [← hcn2]; exact va_recv hG.1 rel.2.1 hr g2, hpre _⟩ rfl hlen2 rel.1.1 hst hW8 (jm_dc_eq o1) hcells) rel hle hmc hms nx
            · cases k4'
end
