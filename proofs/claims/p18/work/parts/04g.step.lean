set_option maxRecDepth 100000 in
theorem jm_aw4 : Cond.instanceMethod Lib.objectInit ∈ jm_W := List.mem_filter.mpr ⟨jm_t1 (List.mem_of_getElem? (i := 32) rfl), rfl⟩
set_option maxRecDepth 100000 in
theorem jm_aw5 : Cond.code Lib.objectInit ⟨#[0xb1]⟩ 1 none ∈ jm_W := List.mem_filter.mpr ⟨jm_t1 (List.mem_of_getElem? (i := 33) rfl), rfl⟩
set_option maxRecDepth 100000 in
theorem jm_aw6 : Cond.native arraycopyName ∈ jm_W := List.mem_filter.mpr ⟨jm_t3 (List.mem_of_getElem? (i := 179) rfl), rfl⟩
set_option maxRecDepth 100000 in
theorem jm_aw7 : Cond.static arraycopyName ∈ jm_W := List.mem_filter.mpr ⟨jm_t3 (List.mem_of_getElem? (i := 178) rfl), rfl⟩
set_option maxRecDepth 100000 in
theorem jm_aw8 : Cond.initialized "java/lang/System" ∈ jm_W := List.mem_filter.mpr ⟨jm_t1 (List.mem_of_getElem? (i := 19) rfl), rfl⟩
set_option maxRecDepth 100000 in
theorem jm_aw9 : Cond.static Lib.Math.max.name ∈ jm_W := List.mem_filter.mpr ⟨jm_t4 (List.mem_of_getElem? (i := 47) rfl), rfl⟩
set_option maxRecDepth 100000 in
theorem jm_aw10 : Cond.initialized "java/lang/Math" ∈ jm_W := List.mem_filter.mpr ⟨jm_t1 (List.mem_of_getElem? (i := 24) rfl), rfl⟩
set_option maxRecDepth 100000 in
theorem jm_aw11 : Cond.code Lib.Math.max.name Lib.Math.max.code 2 (some .int) ∈ jm_W := List.mem_filter.mpr ⟨jm_t4 (List.mem_of_getElem? (i := 48) rfl), rfl⟩
set_option maxRecDepth 100000 in
theorem jm_aw12 : Cond.static Lib.Math.min.name ∈ jm_W := List.mem_filter.mpr ⟨jm_t4 (List.mem_of_getElem? (i := 50) rfl), rfl⟩
set_option maxRecDepth 100000 in
theorem jm_aw13 : Cond.code Lib.Math.min.name Lib.Math.min.code 2 (some .int) ∈ jm_W := List.mem_filter.mpr ⟨jm_t4 (List.mem_of_getElem? (i := 51) rfl), rfl⟩
theorem jm_slen : g_strs.length = g_str.length := by decide +kernel
section
variable {aC : Nat → ClassId} {ad : Nat → Nat} {fmt : Value}
theorem jm_catm (hf : fmt.category = 1) (S : List jm_V) : ((S.map (jm_cv ad fmt)).map fun v => v.category).sum = jm_cat S := by
  unfold jm_cat
  rw [List.map_map]
  congr 1
  apply List.map_congr_left
  intro v _
  exact jm_cvc hf v
theorem jm_cpy_len (f g : List Int) (sp dp n : Nat) (h1 : sp + n ≤ f.length) (h2 : dp + n ≤ g.length) : (jm_cpy f g sp dp n).length = g.length := by
  unfold jm_cpy
  simp only [List.length_append, List.length_take, List.length_drop]
  omega
theorem jm_cpy_get (f g : List Int) (sp dp n j : Nat) (h1 : sp + n ≤ f.length) (h2 : dp + n ≤ g.length) : (jm_cpy f g sp dp n).getD j 0 = if dp ≤ j ∧ j < dp + n then f.getD (sp + (j - dp)) 0 else g.getD j 0 := by
  unfold jm_cpy
  simp only [List.getD_eq_getElem?_getD]
  by_cases hj : j < dp
  · rw [List.getElem?_append_left (by simp only [List.length_take]; omega), List.getElem?_take, if_pos hj, if_neg (by omega)]
  · rw [List.getElem?_append_right (by simp only [List.length_take]; omega)]
    have e1 : (g.take dp).length = dp := by rw [List.length_take]; omega
    rw [e1]
    by_cases hj2 : j < dp + n
    · rw [List.getElem?_append_left (by simp only [List.length_take, List.length_drop]; omega), List.getElem?_take, if_pos (by omega), List.getElem?_drop, if_pos (by omega)]
    · rw [List.getElem?_append_right (by simp only [List.length_take, List.length_drop]; omega), List.getElem?_drop, if_neg (by omega)]
      congr 2
      simp only [List.length_take, List.length_drop]
      omega
end
section
variable {p : Program} {l : Launch} {e : Env} {R : Room} {s : State} {mi : MethodId} {args : Array Value} {below : List Frame} {meth : Method} {c : Code} {Q : State → Prop}
variable {D : va_G} {aC : Nat → ClassId} {ad : Nat → Nat} {fmt : Value} {sc : List Int} {m c0 s0 x0 : Nat}
variable {pc pc' : Nat} {L L' : jm_L} {S S' : List jm_V} {h h' : jm_H} {ls : Array Slot} {H : Heap} {locs : List Loc} {cells slots : Nat}
theorem jm_ldcSW {cc : ByteArray} {rest : List Value} (hexec : p.tables.exec = Jvm.exec) (hb : c.code = cc) {own tx : String} {index q : Nat} (hown : s.vm.findClass own = some mi.cls) (hZ : vk_R own index tx q s) (hdg : decode cc pc = .ok (.ldc_w index, 3))
    (k : W p l e R s mi args below meth c H locs cells slots Q (F0 mi (pc + 3) ls (.ref q :: rest))) : W p l e R s mi args below meth c H locs cells slots Q (F0 mi pc ls rest) := by
  intro T hT X
  obtain ⟨t, a1, b1⟩ := k T hT X
  exact ⟨t, X.ldcStringW hexec hown (text := tx) (a := q) hZ.1 hZ.2 (g := F0 mi pc ls rest) rfl (by rw [hb]; exact hdg) t a1, b1⟩
theorem jm_s19 {a : Int} {b d : Nat} (C : jm_Cx p R s mi args meth c D aC ad fmt sc m c0 x0) (rel : jm_Rel D aC ad fmt s (g_m m).2.2.1 c0 s0 x0 L h ls H locs cells slots) (hok : jm_ok2 (g_lnk m pc) (g_m m).1 m pc (19, a, b, d) = true)
    (nx : jm_Nx p l e R s mi args below meth c Q D aC ad fmt (g_m m).2.2.1 c0 s0 x0 (pc + 2 + d) L ((4, 10 + 2 * (b : Int)) :: S) h) : W p l e R s mi args below meth c H locs cells slots Q (F0 mi pc ls (S.map (jm_cv ad fmt))) := by
  obtain ⟨hx, hb, hml, hown, hts, hG, hnm, hfr, hlo, hs0, htab⟩ := C
  simp only [jm_ok2, Bool.and_eq_true, decide_eq_true_eq] at hok
  obtain ⟨⟨⟨hd, hb1⟩, h1⟩, h2⟩ := hok
  have hR := hG.2.2.1 b hb1
  rw [h1, h2] at hR
  have nx' := nx ls H locs cells slots rel
  rw [List.map_cons, jm_cv4 (v := (4, _)) rfl, show (10 + 2 * (b : Int)).toNat = 10 + 2 * b by omega] at nx'
  split at hd
  · rename_i hd0
    subst hd0
    exact va_ldcS hx hb hown hR (jm_dc_eq hd) nx'
  · simp only [Bool.and_eq_true, decide_eq_true_eq] at hd
    obtain ⟨hd, rfl⟩ := hd
    exact jm_ldcSW hx hb hown hR (jm_dc_eq hd) nx'
theorem jm_s20 {a : Int} {b d : Nat} (C : jm_Cx p R s mi args meth c D aC ad fmt sc m c0 x0) (rel : jm_Rel D aC ad fmt s (g_m m).2.2.1 c0 s0 x0 L h ls H locs cells slots) (hok : jm_ok2 (g_lnk m pc) (g_m m).1 m pc (20, a, b, d) = true)
    (hst : jm_tsw (20, a, b, d) L S h = some (pc', L', S', h'))
    (nx : jm_Nx p l e R s mi args below meth c Q D aC ad fmt (g_m m).2.2.1 c0 s0 x0 pc' L' S' h') : W p l e R s mi args below meth c H locs cells slots Q (F0 mi pc ls (S.map (jm_cv ad fmt))) := by
  obtain ⟨hx, hb, hml, hown, hts, hG, hnm, hfr, hlo, hs0, htab⟩ := C
  have hok2 : (match decode (g_m m).2.1 pc with
    | .ok (.tableswitch dd lo hi offs, _) => decide (lo = a) && decide (hi = lo + ((g_sw.getD d []).length : Int) - 1) && decide ((pc : Int) + dd = b) && decide (offs.toList.map (fun o => (pc : Int) + o) = (g_sw.getD d []).map (fun t : Nat => (t : Int)))
    | _ => false) = true := hok
  clear hok
  split at hok2
  · rename_i dd lo hi offs n hdec
    simp only [Bool.and_eq_true, decide_eq_true_eq] at hok2
    obtain ⟨⟨⟨rfl, e2⟩, e3⟩, e4⟩ := hok2
    match S, hst with
    | [], hst' => cases hst'
    | x :: r, hst' =>
      unfold jm_tsw at hst'
      dsimp only at hst'
      split at hst'
      · rename_i hx0
        rw [List.map_cons, jm_cv0 hx0]
        split at hst'
        · rename_i hout
          cases hst'
          exact lv_tableOut hx hb hdec (by rw [jm_nn]; omega) e3 (nx ls H locs cells slots rel)
        · rename_i hin
          cases ht : (g_sw.getD d [])[(jm_n x.2 - lo).toNat]? with
          | none => rw [ht] at hst'; cases hst'
          | some t =>
            rw [ht] at hst'
            cases hst'
            have e5 : (offs.toList.map (fun o => (pc : Int) + o))[(jm_n x.2 - lo).toNat]? = some (pc' : Int) := by
              rw [e4, List.getElem?_map, ht]; rfl
            rw [List.getElem?_map] at e5
            cases ho : offs.toList[(jm_n x.2 - lo).toNat]? with
            | none => rw [ho] at e5; cases e5
            | some o =>
              rw [ho] at e5
              have e6 : (pc : Int) + o = (pc' : Int) := Option.some.inj e5
              exact lv_tableIn hx hb hdec (by rw [jm_nn]; omega) (by rw [jm_nn]; omega) (off := o) (by rw [jm_nn, ← Array.getElem?_toList]; exact ho) e6 (nx ls H locs cells slots rel)
      · cases hst'
  · cases hok2
theorem jm_s21 {a : Int} {b d : Nat} (C : jm_Cx p R s mi args meth c D aC ad fmt sc m c0 x0) (rel : jm_Rel D aC ad fmt s (g_m m).2.2.1 c0 s0 x0 L h ls H locs cells slots) (hok : jm_ok2 (g_lnk m pc) (g_m m).1 m pc (21, a, b, d) = true)
    (hst : jm_gets (21, a, b, d) pc L S h = some (pc', L', S', h'))
    (nx : jm_Nx p l e R s mi args below meth c Q D aC ad fmt (g_m m).2.2.1 c0 s0 x0 pc' L' S' h') : W p l e R s mi args below meth c H locs cells slots Q (F0 mi pc ls (S.map (jm_cv ad fmt))) := by
  obtain ⟨hx, hb, hml, hown, hts, hG, hnm, hfr, hlo, hs0, htab⟩ := C
  simp only [jm_ok2, Bool.and_eq_true, decide_eq_true_eq] at hok
  obtain ⟨⟨hd, hb1⟩, hw⟩ := hok
  match b, hst, hw with
  | 0, hst, hw =>
    cases hst
    exact va_gets hx hb hG.2.2.2.1 rel.2.2.1 hown (hts _ (jm_w_in hw)) (fun x h => h) (jm_dc_eq hd) (nx ls H locs cells slots rel)
  | 1, hst, hw =>
    cases hst
    exact va_gets hx hb hG.2.2.2.2.1 rel.2.2.1 hown (hts _ (jm_w_in hw)) (fun x h => h) (jm_dc_eq hd) (nx ls H locs cells slots rel)
  | 2, hst, hw =>
    cases hst
    exact va_gets hx hb hG.2.2.2.2.2.1 rel.2.2.1 hown (hts _ (jm_w_in hw)) (fun x h => h) (jm_dc_eq hd) (nx ls H locs cells slots rel)
  | b + 3, hst, hw => cases hst
theorem jm_strix {z : Int} (h1 : 10 ≤ z) (h2 : z < 10 + 2 * g_str.length) (h3 : z % 2 = 0) : ∃ k : Nat, k < g_strs.length ∧ z.toNat = 10 + 2 * k ∧ (z + 1).toNat = 11 + 2 * k := by
  have := jm_slen
  exact ⟨(z.toNat - 10) / 2, by omega, by omega, by omega⟩
theorem jm_strix1 {z : Int} (h1 : 10 ≤ z) (h2 : z < 10 + 2 * g_str.length) (h3 : z % 2 = 1) : ∃ k : Nat, k < g_strs.length ∧ z.toNat = 11 + 2 * k ∧ z.toNat / 2 - 5 = k := by
  have := jm_slen
  exact ⟨(z.toNat - 11) / 2, by omega, by omega, by omega⟩
theorem jm_strT {k : Nat} {U : State} {Hh : Heap} (hG : jm_G D aC ad fmt sc U Hh) (hk : k < g_strs.length) : va_T .byte (ad (11 + 2 * k)) (g_str.getD k []).length (fun j => .int (Int32.ofInt ((g_str.getD k []).getD j 0))) (jm_A ad) U Hh := by
  have h1 := (hG.2.1.1 k hk).2.2.2
  have hl : k < g_str.length := by rw [← jm_slen]; exact hk
  have e1 : (g_str.map List.length).getD k 0 = (g_str.getD k []).length := by
    rw [List.getD_eq_getElem?_getD, List.getD_eq_getElem?_getD, List.getElem?_map, List.getElem?_eq_getElem hl]; rfl
  have e2 : (fun j => Value.int (((g_str.map (List.map Int32.ofInt)).getD k []).getD j 0)) = (fun j => Value.int (Int32.ofInt ((g_str.getD k []).getD j 0))) := by
    funext j
    simp only [List.getD_eq_getElem?_getD, List.getElem?_map, List.getElem?_eq_getElem hl]
    show Value.int (((g_str[k].map Int32.ofInt)[j]?).getD 0) = Value.int (Int32.ofInt ((g_str[k][j]?).getD 0))
    rw [List.getElem?_map]
    cases g_str[k][j]? <;> rfl
  rw [e1, e2] at h1
  exact h1
theorem jm_s22 {a : Int} {b d : Nat} (C : jm_Cx p R s mi args meth c D aC ad fmt sc m c0 x0) (rel : jm_Rel D aC ad fmt s (g_m m).2.2.1 c0 s0 x0 L h ls H locs cells slots) (hok : jm_ok2 (g_lnk m pc) (g_m m).1 m pc (22, a, b, d) = true)
    (hst : jm_spec sc (22, a, b, d) pc L S h = some (pc', L', S', h'))
    (nx : jm_Nx p l e R s mi args below meth c Q D aC ad fmt (g_m m).2.2.1 c0 s0 x0 pc' L' S' h') : W p l e R s mi args below meth c H locs cells slots Q (F0 mi pc ls (S.map (jm_cv ad fmt))) := by
  obtain ⟨hx, hb, hml, hown, hts, hG, hnm, hfr, hlo, hs0, htab⟩ := C
  have hX := hG.2.2.2.2.2.2.2.1
  have h20 : ad 2 < ad 0 := hG.2.2.2.2.2.2.2.2.1
  have hG0 : ad 0 ≤ s.heap.size := hG.2.2.2.2.2.2.2.2.2.1
  unfold jm_spec at hst
  dsimp only at hst
  split at hst
  · rename_i j o r
    split at hst
    · rename_i hc
      cases hix : jm_ix j.2 g_most.length with
      | none => rw [hix] at hst; cases hst
      | some n =>
        rw [hix] at hst
        cases hst
        obtain ⟨i1, i2, i3⟩ := jm_nl_in hix
        rw [List.map_cons, List.map_cons, jm_cv0 hc.1, hc.2]
        exact va_ti hx hb hG.2.2.2.2.2.2.1 rel.2.2.1 i1 (by rw [i2]; rfl) (jm_dc_eq (show jm_dc _ pc .iaload 1 = true from hok)) (nx ls H locs cells slots rel)
    · cases hst
  · rename_i j o r
    split at hst
    · rename_i hc
      cases hix : jm_ix j.2 sc.length with
      | none => rw [hix] at hst; cases hst
      | some n =>
        rw [hix] at hst
        cases hst
        obtain ⟨i1, i2, i3⟩ := jm_nl_in hix
        rw [List.map_cons, List.map_cons, jm_cv0 hc.1, hc.2]
        exact va_sld (b := ad 2) hx hb hX (by omega) (by unfold jm_A; omega) rel.2.2.1 i1 (jm_dc_eq (show jm_dc _ pc .iaload 1 = true from hok)) (by rw [i2]; exact nx ls H locs cells slots rel)
    · cases hst
  · rename_i o r
    split at hst
    · rename_i hc
      cases hst
      rw [List.map_cons, hc]
      have nx' := nx ls H locs cells slots rel
      rw [List.map_cons, jm_cv0 (v := (0, _)) rfl, Int32.ofInt_eq_ofNat] at nx'
      exact va_slen (b := ad 2) hx hb hX (by omega) (by unfold jm_A; omega) rel.2.2.1 (jm_dc_eq (show jm_dc _ pc .arraylength 1 = true from hok)) nx'
    · cases hst
  · rename_i o r
    split at hst
    · rename_i hc
      cases hst
      obtain ⟨k, k1, k2, k3⟩ := jm_strix hc.2.1 hc.2.2.1 hc.2.2.2
      have hok2 := Bool.and_eq_true_iff.mp (show (jm_dc _ pc (.getfield ((g_lnk m pc).getD 0 0)) 3 && jm_w ((g_lnk m pc).getD 1 0) (.fieldLink (g_m m).1.cls ((g_lnk m pc).getD 0 0) "java/lang/String" "value" "[B")) = true from hok)
      have nx' := nx ls H locs cells slots rel
      rw [List.map_cons, jm_cv4 (v := (4, _)) rfl, k3] at nx'
      rw [List.map_cons, jm_cv4 hc.1, k2]
      exact vk_getf hx hb (hG.2.1.1 k k1).2.2.1 rel.2.2.1 hown (hts _ (jm_w_in hok2.2)) (fun x h => h) (jm_dc_eq hok2.1) nx'
    · cases hst
  · rename_i o r
    split at hst
    · rename_i hc
      cases hst
      obtain ⟨k, k1, k2, k3⟩ := jm_strix hc.2.1 hc.2.2.1 hc.2.2.2
      have hok2 := Bool.and_eq_true_iff.mp (show (jm_dc _ pc (.getfield ((g_lnk m pc).getD 0 0)) 3 && jm_w ((g_lnk m pc).getD 1 0) (.fieldLink (g_m m).1.cls ((g_lnk m pc).getD 0 0) "java/lang/String" "coder" "B")) = true from hok)
      rw [List.map_cons, jm_cv4 hc.1, k2]
      exact vk_getf hx hb (hG.2.1.1 k k1).2.1 rel.2.2.1 hown (hts _ (jm_w_in hok2.2)) (fun x h => h) (jm_dc_eq hok2.1) (nx ls H locs cells slots rel)
    · cases hst
  · rename_i o r
    split at hst
    · rename_i hc
      cases hst
      obtain ⟨k, k1, k2, k3⟩ := jm_strix1 hc.2.1 hc.2.2.1 hc.2.2.2
      have nx' := nx ls H locs cells slots rel
      rw [List.map_cons, jm_cv0 (v := (0, _)) rfl, k3, Int32.ofInt_eq_ofNat] at nx'
      rw [List.map_cons, jm_cv4 hc.1, k2]
      exact va_tlen hx hb (jm_strT hG k1) rel.2.2.1 rfl (jm_dc_eq (show jm_dc _ pc .arraylength 1 = true from hok)) nx'
    · cases hst
  · rename_i j o r
    split at hst
    · rename_i hc
      obtain ⟨k, k1, k2, k3⟩ := jm_strix1 hc.2.2.1 hc.2.2.2.1 hc.2.2.2.2
      rw [k3] at hst
      cases hix : jm_ix j.2 (g_str.getD k []).length with
      | none => rw [hix] at hst; cases hst
      | some n =>
        rw [hix] at hst
        cases hst
        obtain ⟨i1, i2, i3⟩ := jm_nl_in hix
        rw [List.map_cons, List.map_cons, jm_cv0 hc.1, jm_cv4 hc.2.1, k2]
        exact va_tb hx hb (jm_strT hG k1) rel.2.2.1 i1 (by rw [i2]; rfl) (jm_dc_eq (show jm_dc _ pc .baload 1 = true from hok)) (nx ls H locs cells slots rel)
    · cases hst
  · cases hst
theorem jm_s23 {a : Int} {b d : Nat} (C : jm_Cx p R s mi args meth c D aC ad fmt sc m c0 x0) (rel : jm_Rel D aC ad fmt s (g_m m).2.2.1 c0 s0 x0 L h ls H locs cells slots) (hok : jm_ok2 (g_lnk m pc) (g_m m).1 m pc (23, a, b, d) = true)
    (hst : jm_obj pc L S h = some (pc', L', S', h'))
    (nx : jm_Nx p l e R s mi args below meth c Q D aC ad fmt (g_m m).2.2.1 c0 s0 x0 pc' L' S' h') : W p l e R s mi args below meth c H locs cells slots Q (F0 mi pc ls (S.map (jm_cv ad fmt))) := by
  obtain ⟨hx, hb, hml, hown, hts, hG, hnm, hfr, hlo, hs0, htab⟩ := C
  have hf := jm_fc hG.2.2.2.2.2.2.2.2.2.2.2.2
  simp only [jm_ok2, Bool.and_eq_true] at hok
  match S, hst with
  | [], hst' => cases hst'
  | o :: r, hst' =>
    unfold jm_obj at hst'
    dsimp only at hst'
    split at hst'
    · rename_i hc
      cases hst'
      rw [List.map_cons, jm_cv2 hc.1 hc.2.1]
      refine W.objInit hx hb hown (hts _ (jm_w_in hok.2)) (hts _ jm_aw4) (hts _ jm_aw5) rfl (by rw [hml]; exact rel.1.1) rfl (jm_dc_eq hok.1) hfr ?_ (nx ls H locs cells slots rel)
      rw [jm_catm hf]
      show 2 * 0 + _ + _ ≤ _
      omega
    · cases hst'
theorem jm_s24 {a : Int} {b d : Nat} (C : jm_Cx p R s mi args meth c D aC ad fmt sc m c0 x0) (rel : jm_Rel D aC ad fmt s (g_m m).2.2.1 c0 s0 x0 L h ls H locs cells slots) (hok : jm_ok2 (g_lnk m pc) (g_m m).1 m pc (24, a, b, d) = true)
    (hst : jm_acpy pc L S h = some (pc', L', S', h'))
    (nx : jm_Nx p l e R s mi args below meth c Q D aC ad fmt (g_m m).2.2.1 c0 s0 x0 pc' L' S' h') : W p l e R s mi args below meth c H locs cells slots Q (F0 mi pc ls (S.map (jm_cv ad fmt))) := by
  obtain ⟨hx, hb, hml, hown, hts, hG, hnm, hfr, hlo, hs0, htab⟩ := C
  have hf := jm_fc hG.2.2.2.2.2.2.2.2.2.2.2.2
  simp only [jm_ok2, Bool.and_eq_true] at hok
  unfold jm_acpy at hst
  split at hst
  · rename_i n dp dd sp o r
    split at hst
    · rename_i hc
      obtain ⟨c1, c2, c3, c4, c5, c6, c7, c8, c9⟩ := hc
      split at hst
      · rename_i e1 e2 cc cc' hcl hcl'
        split at hst
        · rename_i hk
          obtain ⟨k1, k2, k3, k4⟩ := hk
          cases hst
          obtain ⟨g0, g1, g2⟩ := jm_cellw (aC := aC) (ad := ad) (fmt := fmt) hcl
          obtain ⟨g0', g1', g2'⟩ := jm_cellw (aC := aC) (ad := ad) (fmt := fmt) hcl'
          have neg : ∀ z : Int, 0 ≤ jm_n z → ¬ Int32.ofInt z < 0 := fun z hz => by
            rw [show (0 : Int32) = Int32.ofInt 0 from rfl, jm_ltI]
            show ¬ jm_n z < 0
            omega
          simp only [List.map_cons]
          rw [jm_cv0 c1, jm_cv0 c2, jm_cv2 c3 g0', jm_cv0 c4, jm_cv2 c5 g0]
          have key : ∀ (E : va_E), jm_ce aC ad fmt (cc'.1, jm_cpy cc.2 cc'.2 (jm_n sp.2).toNat (jm_n dp.2).toNat (jm_n n.2).toNat) = E → ∀ (H1 : Heap) (locs1 : List Loc), va_P D g_cl ((jm_ws aC ad fmt h.1).set dd.2.toNat (ad 0 + dd.2.toNat, E)) H1 → va_D (jm_A ad) ((jm_ws aC ad fmt h.1).set dd.2.toNat (ad 0 + dd.2.toNat, E)) → va_S (jm_A ad) s.heap H1 locs1 → W p l e R s mi args below meth c H1 locs1 cells slots Q (F0 mi (pc + 3) ls (S'.map (jm_cv ad fmt))) := by
            intro E hE H1 locs1 hP1 _ hS1
            refine nx ls H1 locs1 cells slots ⟨rel.1, ?_, hS1, rel.2.2.2.1, ?_, ?_⟩
            · dsimp only
              rw [jm_wsset, hE]
              exact hP1
            · rw [rel.2.2.2.2.1]; simp [jm_cn]
            · rw [rel.2.2.2.2.2]
              unfold jm_sl
              dsimp only
              rw [jm_slset g1' (jm_cpy_len _ _ _ _ _ k3 k4)]
          have hroom : ((S'.map (jm_cv ad fmt)).map fun v => v.category).sum + (nativeFrameWords "java/lang/System" "arraycopy" 5 + 11) ≤ R.locals := by
            rw [jm_catm hf]
            have : nativeFrameWords "java/lang/System" "arraycopy" 5 + 11 ≤ 52 := by decide +kernel
            omega
          rcases k2 with k2 | k2
          · have k2' : cc'.1 = 0 := by omega
            rw [jm_ce_0 k2] at g2
            rw [jm_ce_0 k2'] at g2'
            refine va_copyi hx hb (by rw [hml]; exact rel.1.1.symm) hown (hts _ (jm_w_in hok.2)) (hts _ jm_aw6) (hts _ jm_aw7) (hts _ jm_aw8) hG.1 rel.2.1 (jm_wsD _) rel.2.2.1 o.2.toNat dd.2.toNat 0 0 g2 g2' rfl rfl rfl (neg _ c8) (neg _ c7) (neg _ c6) k3 k4 (fun _ _ => rfl) hfr hroom (jm_dc_eq hok.1) (key _ ?_)
            rw [jm_ce_0 (c := (cc'.1, jm_cpy cc.2 cc'.2 (jm_n sp.2).toNat (jm_n dp.2).toNat (jm_n n.2).toNat)) k2']
            dsimp only
            rw [jm_cpy_len _ _ _ _ _ k3 k4]
            congr 4
            funext j
            rw [jm_cpy_get _ _ _ _ _ _ k3 k4]
            unfold va_cpy
            show _ = if (jm_n dp.2).toNat ≤ j ∧ j < (jm_n dp.2).toNat + (jm_n n.2).toNat then _ else _
            split <;> rfl
          · have k2' : cc'.1 = 2 := by omega
            rw [jm_ce_2 k2] at g2
            rw [jm_ce_2 k2'] at g2'
            refine va_copyl hx hb (by rw [hml]; exact rel.1.1.symm) hown (hts _ (jm_w_in hok.2)) (hts _ jm_aw6) (hts _ jm_aw7) (hts _ jm_aw8) hG.1 rel.2.1 (jm_wsD _) rel.2.2.1 o.2.toNat dd.2.toNat 2 2 g2 g2' rfl rfl rfl (neg _ c8) (neg _ c7) (neg _ c6) k3 k4 (fun _ _ => rfl) hfr hroom (jm_dc_eq hok.1) (key _ ?_)
            rw [jm_ce_2 (c := (cc'.1, jm_cpy cc.2 cc'.2 (jm_n sp.2).toNat (jm_n dp.2).toNat (jm_n n.2).toNat)) k2']
            dsimp only
            rw [jm_cpy_len _ _ _ _ _ k3 k4]
            congr 5
            funext j
            rw [jm_cpy_get _ _ _ _ _ _ k3 k4]
            unfold va_cpy
            show _ = if (jm_n dp.2).toNat ≤ j ∧ j < (jm_n dp.2).toNat + (jm_n n.2).toNat then _ else _
            split <;> rfl
        · cases hst
      · cases hst
    · cases hst
  · cases hst
theorem jm_s25 {a : Int} {b d : Nat} (C : jm_Cx p R s mi args meth c D aC ad fmt sc m c0 x0) (rel : jm_Rel D aC ad fmt s (g_m m).2.2.1 c0 s0 x0 L h ls H locs cells slots) (hok : jm_ok2 (g_lnk m pc) (g_m m).1 m pc (25, a, b, d) = true)
    (hst : jm_alen pc L S h = some (pc', L', S', h'))
    (nx : jm_Nx p l e R s mi args below meth c Q D aC ad fmt (g_m m).2.2.1 c0 s0 x0 pc' L' S' h') : W p l e R s mi args below meth c H locs cells slots Q (F0 mi pc ls (S.map (jm_cv ad fmt))) := by
  obtain ⟨hx, hb, hml, hown, hts, hG, hnm, hfr, hlo, hs0, htab⟩ := C
  have hd := jm_dc_eq (show jm_dc _ pc .arraylength 1 = true from hok)
  match S, hst with
  | [], hst' => cases hst'
  | o :: r, hst' =>
    unfold jm_alen at hst'
    dsimp only at hst'
    split at hst'
    · rename_i ho
      cases hcl : jm_cell h o.2 with
      | none => rw [hcl] at hst'; cases hst'
      | some cc =>
        rw [hcl] at hst'
        dsimp only at hst'
        split at hst'
        · rename_i hk
          cases hst'
          obtain ⟨g0, g1, g2⟩ := jm_cellw (aC := aC) (ad := ad) (fmt := fmt) hcl
          have nx' := nx ls H locs cells slots rel
          rw [List.map_cons, jm_cv0 (v := (0, _)) rfl, Int32.ofInt_eq_ofNat] at nx'
          rw [List.map_cons, jm_cv2 ho g0]
          obtain ⟨k, xs⟩ := cc
          dsimp only at hk
          match k, hk, g2 with
          | 0, _, g2 => exact va_alen hx hb hG.1 rel.2.1 o.2.toNat 0 g2 rfl rfl hd nx'
          | 1, _, g2 => exact va_alen hx hb hG.1 rel.2.1 o.2.toNat 1 g2 rfl rfl hd nx'
          | 2, _, g2 => exact va_alen hx hb hG.1 rel.2.1 o.2.toNat 2 g2 rfl rfl hd nx'
          | 3, _, g2 => exact va_alen hx hb hG.1 rel.2.1 o.2.toNat 3 g2 rfl rfl hd nx'
          | 4, _, g2 => exact va_alen hx hb hG.1 rel.2.1 o.2.toNat 4 g2 rfl rfl hd nx'
          | k + 5, hk, _ => omega
        · cases hst'
    · cases hst'
theorem jm_s26 {a : Int} {b d : Nat} (C : jm_Cx p R s mi args meth c D aC ad fmt sc m c0 x0) (rel : jm_Rel D aC ad fmt s (g_m m).2.2.1 c0 s0 x0 L h ls H locs cells slots) (hroom : cells ≤ R.cells ∧ slots ≤ R.slots) (hok : jm_ok2 (g_lnk m pc) (g_m m).1 m pc (26, a, b, d) = true)
    (hst : jm_mm (26, a, b, d) pc L S h = some (pc', L', S', h'))
    (nx : jm_Nx p l e R s mi args below meth c Q D aC ad fmt (g_m m).2.2.1 c0 s0 x0 pc' L' S' h') : W p l e R s mi args below meth c H locs cells slots Q (F0 mi pc ls (S.map (jm_cv ad fmt))) := by
  obtain ⟨hx, hb, hml, hown, hts, hG, hnm, hfr, hlo, hs0, htab⟩ := C
  have hf := jm_fc hG.2.2.2.2.2.2.2.2.2.2.2.2
  simp only [jm_ok2, Bool.and_eq_true] at hok
  match S, hst with
  | [], hst' => cases hst'
  | [_], hst' => cases hst'
  | y :: x :: r, hst' =>
    unfold jm_mm at hst'
    dsimp only at hst'
    split at hst'
    · rename_i hc
      cases hst'
      have nx' := nx ls H locs cells slots rel
      rw [List.map_cons, jm_cv0 (v := (0, _)) rfl] at nx'
      dsimp only at nx'
      rw [List.map_cons, List.map_cons, jm_cv0 hc.1, jm_cv0 hc.2.1]
      have hl : ((r.map (jm_cv ad fmt)).map fun v => v.category).sum + 13 ≤ R.locals := by rw [jm_catm hf]; omega
      by_cases hb0 : b = 0
      · subst hb0
        refine va_mmax hx hb (by rw [hml]; exact rel.1.1.symm) hown (hts _ (jm_w_in hok.2)) (hts _ jm_aw9) (hts _ jm_aw10) (hts _ jm_aw11) hfr hl hroom.1 hroom.2 (jm_dc_eq hok.1) ?_
        rw [if_pos rfl] at nx'
        by_cases hq : jm_n x.2 < jm_n y.2
        · rw [if_pos hq] at nx'
          rw [if_pos ((jm_ltI _ _).mpr hq)]
          exact nx'
        · rw [if_neg hq] at nx'
          rw [if_neg (fun z => hq ((jm_ltI _ _).mp z))]
          exact nx'
      · rw [if_neg hb0] at nx' hok
        refine va_mmin hx hb (by rw [hml]; exact rel.1.1.symm) hown (hts _ (jm_w_in hok.2)) (hts _ jm_aw12) (hts _ jm_aw10) (hts _ jm_aw13) hfr hl hroom.1 hroom.2 (jm_dc_eq hok.1) ?_
        by_cases hq : jm_n y.2 < jm_n x.2
        · rw [if_pos hq] at nx'
          rw [if_pos ((jm_ltI _ _).mpr hq)]
          exact nx'
        · rw [if_neg hq] at nx'
          rw [if_neg (fun z => hq ((jm_ltI _ _).mp z))]
          exact nx'
    · cases hst'
end
