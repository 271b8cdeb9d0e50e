set_option maxRecDepth 100000 in
theorem jm_aw0 : Cond.arrayClass .int ∈ jm_W := List.mem_filter.mpr ⟨jm_t1 (List.mem_of_getElem? (i := 205) rfl), rfl⟩
set_option maxRecDepth 100000 in
theorem jm_aw1 : Cond.arrayClass .byte ∈ jm_W := List.mem_filter.mpr ⟨jm_t1 (List.mem_of_getElem? (i := 136) rfl), rfl⟩
set_option maxRecDepth 100000 in
theorem jm_aw2 : Cond.arrayClass .long ∈ jm_W := List.mem_filter.mpr ⟨jm_t1 (List.mem_of_getElem? (i := 137) rfl), rfl⟩
set_option maxRecDepth 100000 in
theorem jm_aw3 : Cond.arrayClass .boolean ∈ jm_W := List.mem_filter.mpr ⟨jm_t6 (List.mem_of_getElem? (i := 173) rfl), rfl⟩
theorem jm_ft3 : g_ft.all (fun l => l.all (fun t => decide (t < 4))) = true := by decide +kernel
theorem jm_ftlt {b k t : Nat} (h : (g_ft.getD b [])[k]? = some t) : t < 4 := by
  have h1 := List.mem_of_getElem? h
  by_cases hb : b < g_ft.length
  · rw [List.getD_eq_getElem?_getD, List.getElem?_eq_getElem hb] at h1
    have h2 := List.all_eq_true.mp jm_ft3 _ (List.getElem_mem hb)
    exact of_decide_eq_true (List.all_eq_true.mp h2 t h1)
  · rw [List.getD_eq_getElem?_getD, List.getElem?_eq_none (by omega)] at h1
    cases h1
section
variable {p : Program} {l : Launch} {e : Env} {R : Room} {s : State} {mi : MethodId} {args : Array Value} {below : List Frame} {meth : Method} {c : Code} {Q : State → Prop}
variable {D : va_G} {aC : Nat → ClassId} {ad : Nat → Nat} {fmt : Value} {sc : List Int} {m c0 s0 x0 : Nat}
variable {pc pc' : Nat} {L L' : jm_L} {S S' : List jm_V} {h h' : jm_H} {ls : Array Slot} {H : Heap} {locs : List Loc} {cells slots : Nat}
theorem jm_Wsz {g : JFrame} (k : H.size ≤ s.heap.size + cells → W p l e R s mi args below meth c H locs cells slots Q g) : W p l e R s mi args below meth c H locs cells slots Q g :=
  fun T hT X => k (by rw [← hT]; exact X.heapSize) T hT X
theorem jm_lo {cs : List jm_C} (hP : va_P D g_cl (jm_ws aC ad fmt cs) H) (h0 : ad 0 ≤ H.size) : ad 0 + cs.length ≤ H.size := by
  cases hc : cs.length with
  | zero => exact h0
  | succ k =>
    have h1 : cs[k]? = some cs[k] := List.getElem?_eq_getElem (by omega)
    have h2 := (hP k _ (by rw [jm_wsg, h1]; rfl)).lt
    dsimp only at h2
    omega
theorem jm_szeq (hs0 : x0 = 0 → s.heap.size = ad 0 + c0) (hG : ad 0 ≤ s.heap.size) (rel : jm_Rel D aC ad fmt s (g_m m).2.2.1 c0 s0 x0 L h ls H locs cells slots) (h2 : h.2 = 0) (hz : H.size ≤ s.heap.size + cells) : H.size = ad 0 + h.1.length := by
  have r1 := rel.2.2.2.1
  have r2 := rel.2.2.2.2.1
  have r3 := hs0 (by omega)
  have r4 := jm_lo rel.2.1 (Nat.le_trans hG rel.2.2.1.1)
  unfold jm_cn at r2
  omega
theorem jm_pushed {c' : jm_C} {H1 : Heap} (rel : jm_Rel D aC ad fmt s (g_m m).2.2.1 c0 s0 x0 L h ls H locs cells slots) (hz : H.size = ad 0 + h.1.length) (z1 : H1.size = H.size + 1) (o1 : ∀ q, q < H.size → H1[q]? = H[q]?) (e1 : va_at D g_cl (ad 0 + h.1.length, jm_ce aC ad fmt c') H1) :
    jm_Rel D aC ad fmt s (g_m m).2.2.1 c0 s0 x0 L (h.1 ++ [c'], h.2) ls H1 locs (cells + 1) (slots + c'.2.length) := by
  obtain ⟨r0, r1, r2, r3, r4, r5⟩ := rel
  refine ⟨r0, ?_, ⟨by rw [z1]; exact Nat.le_trans r2.1 (by omega), fun q h1 h2 => (o1 q (Nat.lt_of_lt_of_le h1 r2.1)).trans (r2.2.1 q h1 h2), r2.2.2⟩, r3, ?_, ?_⟩
  · dsimp only
    rw [jm_wsapp]
    refine va_P.app (r1.kept fun k x hx => o1 x.1 ((r1 k x hx).lt)) (fun k x hx => ?_)
    have hk : k < 1 := (List.getElem?_eq_some_iff.mp hx).1
    rw [show k = 0 by omega] at hx
    cases hx
    exact e1
  · unfold jm_cn at r4 ⊢
    dsimp only at r4 ⊢
    rw [List.length_append, List.length_singleton]
    omega
  · unfold jm_sl at r5 ⊢
    dsimp only at r5 ⊢
    rw [List.map_append, List.sum_append, List.map_singleton, List.sum_singleton]
    omega
theorem jm_rep0 (N j : Nat) : (List.replicate N (0 : Int)).getD j 0 = 0 := by
  rw [List.getD_eq_getElem?_getD, List.getElem?_replicate]
  split <;> rfl
theorem jm_zd {α β γ : Type} (f : α → β → γ) (g : α → β) (ts : List α) (k : Nat) (t : α) (d : γ) (ht : ts[k]? = some t) : (List.zipWith f ts (ts.map g)).getD k d = f t (g t) := by
  rw [List.getD_eq_getElem?_getD, List.getElem?_zipWith, List.getElem?_map, ht]
  rfl
theorem jm_arrVc {cA : ClassId} {n : Nat} {f g : Nat → Value} (h : ∀ j, j < n → f j = g j) : arrV cA n f = arrV cA n g := by
  unfold arrV
  congr 1
  apply Array.ext (by simp)
  intro i h1 h2
  simp at h1
  simp [h i h1]
theorem jm_newa_inv {a : Int} {b d : Nat} (hst : jm_newa (17, a, b, d) pc L S h = some (pc', L', S', h')) : ∃ (v : jm_V) (r : List jm_V), S = v :: r ∧ v.1 = 0 ∧ 0 ≤ jm_n v.2 ∧ jm_n v.2 ≤ 100000 ∧ h.2 = 0 ∧ pc' = pc + (if b = 4 then 3 else 2) ∧ L' = L ∧ S' = (2, (h.1.length : Int)) :: r ∧ h' = (h.1 ++ [(b, List.replicate (jm_n v.2).toNat (if b = 4 then -1 else 0))], h.2) := by
  match S, hst with
  | [], hst' => cases hst'
  | v :: r, hst' =>
    unfold jm_newa at hst'
    dsimp only at hst'
    split at hst'
    · rename_i hc
      cases hst'
      exact ⟨v, r, rfl, hc.1, hc.2.1, hc.2.2.1, hc.2.2.2, rfl, rfl, rfl, rfl⟩
    · cases hst'
theorem jm_s17 {a : Int} {b d : Nat} (C : jm_Cx p R s mi args meth c D aC ad fmt sc m c0 x0) (rel : jm_Rel D aC ad fmt s (g_m m).2.2.1 c0 s0 x0 L h ls H locs cells slots) (hok : jm_ok2 (g_lnk m pc) (g_m m).1 m pc (17, a, b, d) = true)
    (hst : jm_newa (17, a, b, d) pc L S h = some (pc', L', S', h')) (hbd : jm_cn h' ≤ c0 + R.cells ∧ jm_sl h' ≤ s0 + R.slots)
    (nx : jm_Nx p l e R s mi args below meth c Q D aC ad fmt (g_m m).2.2.1 c0 s0 x0 pc' L' S' h') : W p l e R s mi args below meth c H locs cells slots Q (F0 mi pc ls (S.map (jm_cv ad fmt))) := by
  obtain ⟨hx, hb, hml, hown, hts, hG, hnm, hfr, hlo, hs0, htab⟩ := C
  obtain ⟨v, r, rfl, hv, hn0, hn1, h20, rfl, rfl, rfl, rfl⟩ := jm_newa_inv hst
  clear hst
  have hG0 : ad 0 ≤ s.heap.size := hG.2.2.2.2.2.2.2.2.2.1
  refine jm_Wsz fun hz0 => ?_
  have hz := jm_szeq hs0 hG0 rel h20 hz0
  have r4 := rel.2.2.2.2.1
  have r5 := rel.2.2.2.2.2
  have hcl : (Int32.ofInt v.2).toNatClampNeg = (jm_n v.2).toNat := rfl
  have hneg : ¬ Int32.ofInt v.2 < 0 := by
    rw [show (0 : Int32) = Int32.ofInt 0 from rfl, jm_ltI]
    show ¬ jm_n v.2 < 0
    omega
  have hb1 := hbd.1
  have hb2 := hbd.2
  unfold jm_cn at hb1 r4
  unfold jm_sl at hb2 r5
  dsimp only at hb1 hb2 r4 r5
  rw [List.length_append, List.length_singleton] at hb1
  rw [List.map_append, List.sum_append, List.map_singleton, List.sum_singleton, List.length_replicate] at hb2
  have hcells : cells + 1 ≤ R.cells := by omega
  have hslots : slots + (jm_n v.2).toNat ≤ R.slots := by omega
  rw [List.map_cons, jm_cv0 hv]
  have fin : ∀ (H1 : Heap), H1.size = H.size + 1 → (∀ q, q < H.size → H1[q]? = H[q]?) → va_at D g_cl (ad 0 + h.1.length, jm_ce aC ad fmt (b, List.replicate (jm_n v.2).toNat (if b = 4 then -1 else 0))) H1 → W p l e R s mi args below meth c H1 locs (cells + 1) (slots + (jm_n v.2).toNat) Q (F0 mi (pc + (if b = 4 then 3 else 2)) ls (.ref H.size :: r.map (jm_cv ad fmt))) := by
    intro H1 z1 o1 e1
    have q := nx ls H1 locs (cells + 1) (slots + (jm_n v.2).toNat) (by
      have q := jm_pushed rel hz z1 o1 e1
      dsimp only at q
      rw [List.length_replicate] at q
      exact q)
    rw [List.map_cons, jm_cv2 (v := (2, (h.1.length : Int))) rfl (Int.natCast_nonneg _)] at q
    rw [hz]
    exact q
  by_cases hb4 : b = 4
  · subst hb4
    simp only [jm_ok2, if_true, Bool.and_eq_true] at hok
    have hK4 := (hG.1.2 4 _ rfl).2
    obtain ⟨kA, comp, k1, k2, k3, k4⟩ := hK4
    refine W.anew hx hb hown (hts _ (jm_w_in hok.2)) (va_AO.use hG.2.2.2.2.2.2.2.2.2.2.2.1.1) rfl (jm_dc_eq hok.1) rfl hneg (by rw [hcl]; omega) hcells (by rw [hcl]; exact hslots) fun cA kA' comp' f1 f2 f3 f4 => ?_
    have hcA : cA = aC 4 := Option.some.inj (f1.symm.trans k4)
    subst hcA
    rw [hcl]
    refine fin _ (by rw [Array.size_push]) (fun q hq => by rw [Array.getElem?_push, if_neg (Nat.ne_of_lt hq)]) ?_
    show _ = some (vp_cell _ _)
    rw [← hz, Array.getElem?_push_size, arrV_new]
    congr 1
    dsimp only
    rw [vp_cell_q, List.length_replicate]
    refine jm_arrVc fun j hj => ?_
    rw [List.getD_eq_getElem?_getD, List.getElem?_replicate, if_pos hj]
    rfl
  · rw [if_neg hb4] at fin
    simp only [jm_ok2, if_neg hb4, Bool.and_eq_true, decide_eq_true_eq] at hok
    obtain ⟨hd, hb5⟩ := hok
    match b, hd, hb5, fin with
    | 0, hd, _, fin =>
      refine va_newaK (atype := .int) hx hb (hts _ jm_aw0) rfl (jm_dc_eq hd) rfl hneg hcl (by show _ * 4 ≤ _; omega) hcells hslots rfl fun H' cA e1 z1 o1 hAr hNm => fin H' z1 o1 ?_
      have hcA : cA = aC 0 := Option.some.inj (hNm.symm.trans (hG.1.2 0 _ rfl).2)
      subst hcA
      show H'[ad 0 + h.1.length]? = some (vp_cell _ _)
      rw [← hz, e1, vp_cell_i]
      congr 2
      · rw [List.length_replicate]
      · funext j; rw [jm_rep0]; rfl
    | 1, hd, _, fin =>
      refine va_newaK (atype := .byte) hx hb (hts _ jm_aw1) rfl (jm_dc_eq hd) rfl hneg hcl (by show _ * 1 ≤ _; omega) hcells hslots rfl fun H' cA e1 z1 o1 hAr hNm => fin H' z1 o1 ?_
      have hcA : cA = aC 1 := Option.some.inj (hNm.symm.trans (hG.1.2 1 _ rfl).2)
      subst hcA
      show H'[ad 0 + h.1.length]? = some (vp_cell _ _)
      rw [← hz, e1, vp_cell_i]
      congr 2
      · rw [List.length_replicate]
      · funext j; rw [jm_rep0]; rfl
    | 2, hd, _, fin =>
      refine va_newaK (atype := .long) hx hb (hts _ jm_aw2) rfl (jm_dc_eq hd) rfl hneg hcl (by show _ * 8 ≤ _; omega) hcells hslots rfl fun H' cA e1 z1 o1 hAr hNm => fin H' z1 o1 ?_
      have hcA : cA = aC 2 := Option.some.inj (hNm.symm.trans (hG.1.2 2 _ rfl).2)
      subst hcA
      show H'[ad 0 + h.1.length]? = some (vp_cell _ _)
      rw [← hz, e1, vp_cell_l]
      congr 2
      · rw [List.length_replicate]
      · funext j; rw [jm_rep0]; rfl
    | 3, hd, _, fin =>
      refine va_newaK (atype := .boolean) hx hb (hts _ jm_aw3) rfl (jm_dc_eq hd) rfl hneg hcl (by show _ * 1 ≤ _; omega) hcells hslots rfl fun H' cA e1 z1 o1 hAr hNm => fin H' z1 o1 ?_
      have hcA : cA = aC 3 := Option.some.inj (hNm.symm.trans (hG.1.2 3 _ rfl).2)
      subst hcA
      show H'[ad 0 + h.1.length]? = some (vp_cell _ _)
      rw [← hz, e1, vp_cell_i]
      congr 2
      · rw [List.length_replicate]
      · funext j; rw [jm_rep0]; rfl
    | b + 4, _, hb5, _ => omega
theorem jm_s18 {a : Int} {b d : Nat} (C : jm_Cx p R s mi args meth c D aC ad fmt sc m c0 x0) (rel : jm_Rel D aC ad fmt s (g_m m).2.2.1 c0 s0 x0 L h ls H locs cells slots) (hok : jm_ok2 (g_lnk m pc) (g_m m).1 m pc (18, a, b, d) = true)
    (hst : jm_new (18, a, b, d) pc L S h = some (pc', L', S', h')) (hbd : jm_cn h' ≤ c0 + R.cells ∧ jm_sl h' ≤ s0 + R.slots)
    (nx : jm_Nx p l e R s mi args below meth c Q D aC ad fmt (g_m m).2.2.1 c0 s0 x0 pc' L' S' h') : W p l e R s mi args below meth c H locs cells slots Q (F0 mi pc ls (S.map (jm_cv ad fmt))) := by
  obtain ⟨hx, hb, hml, hown, hts, hG, hnm, hfr, hlo, hs0, htab⟩ := C
  unfold jm_new at hst
  dsimp only at hst
  split at hst
  · rename_i h20
    cases hst
    simp only [jm_ok2, Bool.and_eq_true, decide_eq_true_eq] at hok
    obtain ⟨⟨⟨⟨hd, hbl⟩, w1⟩, w2⟩, w3⟩ := hok
    obtain ⟨rr, hrr⟩ : ∃ rr, g_cl[b]? = some rr := ⟨_, List.getElem?_eq_getElem hbl⟩
    rw [hrr] at w1 w2 w3
    obtain ⟨CC, T, N⟩ := rr
    obtain ⟨f1, f2, f3, f4, f5⟩ := jm_cl_facts hrr
    dsimp only [Option.getD] at w1 w2 w3 f1 f2 f3 f4 f5
    have hG0 : ad 0 ≤ s.heap.size := hG.2.2.2.2.2.2.2.2.2.1
    refine jm_Wsz fun hz0 => ?_
    have hz := jm_szeq hs0 hG0 rel h20 hz0
    have r4 := rel.2.2.2.2.1
    have r5 := rel.2.2.2.2.2
    have hb1 := hbd.1
    have hb2 := hbd.2
    have hdl : (jm_def b).length = N := by unfold jm_def; rw [List.length_map, f5]
    unfold jm_cn at hb1 r4
    unfold jm_sl at hb2 r5
    dsimp only at hb1 hb2 r4 r5
    rw [List.length_append, List.length_singleton] at hb1
    rw [List.map_append, List.sum_append, List.map_singleton, List.sum_singleton, hdl] at hb2
    have hKn := hG.1.1 b _ hrr
    refine W.newcK hx hb hown (hts _ (jm_w_in w1)) (hts _ (jm_w_in w2)) (hts _ (jm_w_in w3)) rfl (jm_dc_eq hd) (by omega) (by omega) hKn.2.1 rfl fun H1 kC hkC e1 z1 o1 => ?_
    have q := nx ls H1 locs (cells + 1) (slots + N) (by
      have q := jm_pushed (c' := (10 + b, jm_def b)) rel hz z1 o1 (by
        rw [jm_ce_obj rfl]
        refine ⟨_, hrr, ?_⟩
        rw [← hz]
        refine (u_born _ hts f1 hKn hkC e1 f2).to (fun k hk => ?_)
        have hk2 := f3 k hk
        unfold vp_V jm_def
        dsimp only
        rw [jm_zd _ _ _ _ _ _ hk2]
        have hlt := jm_ftlt hk2
        generalize g_yl.getD b g_Y0 k = ty at hlt ⊢
        cases ty <;> first | rfl | exact absurd hlt (by decide))
      dsimp only at q
      rw [hdl] at q
      exact q)
    rw [List.map_cons, jm_cv2 (v := (2, (h.1.length : Int))) rfl (Int.natCast_nonneg _)] at q
    rw [hz]
    exact q
  · cases hst
end
