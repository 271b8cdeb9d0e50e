theorem jm_cl_facts {ci : Nat} {r : vw_C} (h : g_cl[ci]? = some r) : (∀ w ∈ u_ws r.1 r.2.1 r.2.2, w ∈ jm_W) ∧ (∀ k, k < r.2.2 → parseFieldDescriptor (r.2.1 k).2.2.1 = some ((g_yl.getD ci g_Y0) k)) ∧ (∀ k, k < r.2.2 → (g_ft.getD ci [])[k]? = some (jm_tag ((g_yl.getD ci g_Y0) k))) ∧ (∀ a, a < r.2.2 → ∀ b, b < r.2.2 → a ≠ b → (r.2.1 a).2.1 ≠ (r.2.1 b).2.1) ∧ (g_ft.getD ci []).length = r.2.2 := by
  have hlt : ci < 13 := (List.getElem?_eq_some_iff.mp h).1
  have h1 := List.all_eq_true.mp jm_cok_all ci (List.mem_range.mpr hlt)
  unfold jm_cok at h1
  rw [h] at h1
  dsimp only at h1
  simp only [Bool.and_eq_true, List.all_eq_true, decide_eq_true_eq, Bool.or_eq_true, List.mem_range] at h1
  obtain ⟨⟨⟨h2, h3⟩, h4⟩, h5⟩ := h1
  exact ⟨fun w hw => by obtain ⟨k, hk, rfl⟩ := List.mem_map.mp hw; exact List.mem_filter.mpr ⟨jm_at2_in (h2 k (List.mem_range.mp hk)).1, (h2 k (List.mem_range.mp hk)).2⟩, fun k hk => (h3 k hk).1, fun k hk => (h3 k hk).2, fun a ha b hb hab => by
    rcases Nat.lt_or_gt_of_ne hab with q | q
    · exact (h4 a ha b hb).resolve_left (by omega)
    · exact fun e => ((h4 b hb a ha).resolve_left (by omega)) e.symm, h5⟩
section
variable {aC : Nat → ClassId} {ad : Nat → Nat} {fmt : Value}
theorem jm_ce_obj {c : jm_C} {ci : Nat} (h : c.1 = 10 + ci) : jm_ce aC ad fmt c = .inr (ci, List.zipWith (fun t z => jm_cv ad fmt (jm_tg t, z)) (g_ft.getD ci []) c.2) := by
  obtain ⟨k, xs⟩ := c
  dsimp only at h
  subst h
  rw [Nat.add_comm]
  rfl
theorem jm_ce_0 {c : jm_C} (h : c.1 = 0) : jm_ce aC ad fmt c = .inl (aC 0, c.2.length, .inl (fun j => Int32.ofInt (c.2.getD j 0))) := by obtain ⟨k, xs⟩ := c; cases h; rfl
theorem jm_ce_1 {c : jm_C} (h : c.1 = 1) : jm_ce aC ad fmt c = .inl (aC 1, c.2.length, .inl (fun j => Int32.ofInt (c.2.getD j 0))) := by obtain ⟨k, xs⟩ := c; cases h; rfl
theorem jm_ce_2 {c : jm_C} (h : c.1 = 2) : jm_ce aC ad fmt c = .inl (aC 2, c.2.length, .inr (.inl (fun j => Int64.ofInt (c.2.getD j 0)))) := by obtain ⟨k, xs⟩ := c; cases h; rfl
theorem jm_ce_3 {c : jm_C} (h : c.1 = 3) : jm_ce aC ad fmt c = .inl (aC 3, c.2.length, .inl (fun j => Int32.ofInt (c.2.getD j 0))) := by obtain ⟨k, xs⟩ := c; cases h; rfl
theorem jm_ce_4 {c : jm_C} (h : c.1 = 4) : jm_ce aC ad fmt c = .inl (aC 4, c.2.length, .inr (.inr (.inr (.inr (fun j => if c.2.getD j 0 < 0 then none else some (ad 0 + (c.2.getD j 0).toNat)))))) := by obtain ⟨k, xs⟩ := c; cases h; rfl
theorem jm_zset {α β γ : Type} (f : α → β → γ) (ts : List α) (xs : List β) (k : Nat) (z : β) (t : α) (ht : ts[k]? = some t) : List.zipWith f ts (xs.set k z) = (List.zipWith f ts xs).set k (f t z) := by
  apply List.ext_getElem?
  intro j
  rw [List.getElem?_zipWith, List.getElem?_set, List.getElem?_set, List.getElem?_zipWith]
  by_cases hj : k = j
  · subst hj
    by_cases hk : k < xs.length
    · have hk2 : k < (List.zipWith f ts xs).length := by
        rw [List.length_zipWith]
        have := (List.getElem?_eq_some_iff.mp ht).1
        omega
      simp only [if_true, if_pos hk, if_pos hk2, ht]
    · have hk2 : ¬ k < (List.zipWith f ts xs).length := by
        rw [List.length_zipWith]
        omega
      simp only [if_true, if_neg hk, if_neg hk2, ht]
  · simp only [if_neg hj]
theorem jm_getD_set (xs : List Int) (n j : Nat) (v : Int) (hn : n < xs.length) : (xs.set n v).getD j 0 = if j = n then v else xs.getD j 0 := by
  rw [List.getD_eq_getElem?_getD, List.getD_eq_getElem?_getD, List.getElem?_set]
  by_cases hj : n = j
  · subst hj
    simp [hn]
  · simp [hj, Ne.symm hj]
theorem jm_updI (xs : List Int) {n : Nat} (v : Int) (hn : n < xs.length) : upd (fun j => Int32.ofInt (xs.getD j 0)) n (Int32.ofInt v) = fun j => Int32.ofInt ((xs.set n v).getD j 0) := by
  funext j
  rw [jm_getD_set xs n j v hn]
  unfold upd
  split <;> rfl
theorem jm_updL (xs : List Int) {n : Nat} (v : Int) (hn : n < xs.length) : vp_updL (fun j => Int64.ofInt (xs.getD j 0)) n (Int64.ofInt v) = fun j => Int64.ofInt ((xs.set n v).getD j 0) := by
  funext j
  rw [jm_getD_set xs n j v hn]
  unfold vp_updL
  split <;> rfl
theorem jm_fitv {v : jm_V} {t : Int} {ty : FieldType} (hf : jm_fok t v = true) (ht : jm_tag ty = t.toNat) (h0 : 0 ≤ t) : narrow ty (jm_cv ad fmt v) = jm_cv ad fmt v ∧ fits ty (jm_cv ad fmt v) = true ∧ jm_cv ad fmt (jm_tg t.toNat, v.2) = jm_cv ad fmt v := by
  unfold jm_fok at hf
  obtain ⟨w, z⟩ := v
  rcases of_decide_eq_true hf with ⟨rfl, h1⟩ | ⟨rfl, h1⟩ | ⟨rfl, h1, h2⟩ | ⟨rfl, h1, h2⟩
  · cases h1
    cases ty <;> first | exact ⟨rfl, rfl, rfl⟩ | cases ht
  · cases h1
    cases ty <;> first | exact ⟨rfl, rfl, rfl⟩ | cases ht
  · dsimp only at h1 h2
    subst h1
    have e1 : jm_cv ad fmt (2, z) = .ref (ad 0 + z.toNat) := jm_cv2 rfl h2
    rw [show (jm_cv ad fmt (jm_tg (2 : Int).toNat, z)) = jm_cv ad fmt (2, z) from rfl, e1]
    cases ty <;> first | exact ⟨rfl, rfl, rfl⟩ | cases ht
  · cases h1
    have hz : Int32.ofInt z = 0 ∨ Int32.ofInt z = 1 := by
      rcases h2 with h2 | h2
      · exact Or.inl (Int32.toInt_inj.mp h2)
      · exact Or.inr (Int32.toInt_inj.mp h2)
    have e1 : jm_cv ad fmt (0, z) = .int (Int32.ofInt z) := rfl
    cases ty <;> first | cases ht | skip
    rcases hz with hz | hz
    · rw [show (jm_cv ad fmt (jm_tg (3 : Int).toNat, z)) = jm_cv ad fmt (0, z) from rfl, e1, hz]; exact ⟨rfl, rfl, rfl⟩
    · rw [show (jm_cv ad fmt (jm_tg (3 : Int).toNat, z)) = jm_cv ad fmt (0, z) from rfl, e1, hz]; exact ⟨rfl, rfl, rfl⟩
end
section
variable {p : Program} {l : Launch} {e : Env} {R : Room} {s : State} {mi : MethodId} {args : Array Value} {below : List Frame} {meth : Method} {c : Code} {Q : State → Prop}
variable {D : va_G} {aC : Nat → ClassId} {ad : Nat → Nat} {fmt : Value} {sc : List Int} {m c0 s0 x0 : Nat}
variable {pc pc' : Nat} {L L' : jm_L} {S S' : List jm_V} {h h' : jm_H} {ls : Array Slot} {H : Heap} {locs : List Loc} {cells slots : Nat}
theorem jm_s13 {a : Int} {b d : Nat} (C : jm_Cx p R s mi args meth c D aC ad fmt sc m c0 x0) (rel : jm_Rel D aC ad fmt s (g_m m).2.2.1 c0 s0 x0 L h ls H locs cells slots) (hok : jm_ok2 (g_lnk m pc) (g_m m).1 m pc (13, a, b, d) = true)
    (hst : jm_getf (13, a, b, d) pc L S h = some (pc', L', S', h'))
    (nx : jm_Nx p l e R s mi args below meth c Q D aC ad fmt (g_m m).2.2.1 c0 s0 x0 pc' L' S' h') : W p l e R s mi args below meth c H locs cells slots Q (F0 mi pc ls (S.map (jm_cv ad fmt))) := by
  obtain ⟨hx, hb, hml, hown, hts, hG, hnm, hfr, hlo⟩ := C
  simp only [jm_ok2, Bool.and_eq_true, decide_eq_true_eq] at hok
  obtain ⟨⟨⟨⟨hd, ha0⟩, hft⟩, hbl⟩, hw⟩ := hok
  match S, hst with
  | [], hst => cases hst
  | o :: r, hst =>
    unfold jm_getf at hst
    dsimp only at hst
    split at hst
    · rename_i ho
      cases hcl : jm_cell h o.2 with
      | none => rw [hcl] at hst; cases hst
      | some cc =>
        rw [hcl] at hst
        dsimp only at hst
        split at hst
        · rename_i hk
          cases hz : cc.2[d]? with
          | none => rw [hz] at hst; cases hst
          | some z =>
            rw [hz] at hst
            cases hst
            obtain ⟨h0, h1, h2⟩ := jm_cellw (aC := aC) (ad := ad) (fmt := fmt) hcl
            rw [jm_ce_obj hk] at h2
            obtain ⟨rr, hrr⟩ : ∃ rr, g_cl[b]? = some rr := ⟨_, List.getElem?_eq_getElem hbl⟩
            obtain ⟨C, T, N⟩ := rr
            obtain ⟨f1, f2, f3, f4, f5⟩ := jm_cl_facts hrr
            dsimp only at f1 f2 f3 f4 f5
            have hdN : d < N := by rw [← f5]; exact (List.getElem?_eq_some_iff.mp hft).1
            have hfl : jm_fl b d = T d := by unfold jm_fl; rw [hrr]; rfl
            rw [hfl] at hw
            have nx' := nx ls H locs cells slots rel
            rw [List.map_cons] at nx'
            rw [List.map_cons, jm_cv2 ho h0]
            have ea : (if a = 3 then 0 else a.toNat) = jm_tg a.toNat := by
              unfold jm_tg
              by_cases h3 : a = 3
              · subst h3; rfl
              · rw [if_neg h3, if_neg (by omega)]
            rw [ea] at nx'
            exact va_get hx hb hts f1 hown hG.1 rel.2.1 o.2.toNat h2 hrr d hdN (hts _ (jm_w_in hw)) (fun x h => h) (by rw [List.getElem?_zipWith, hft, hz]) (jm_dc_eq hd) nx'
        · cases hst
    · cases hst
theorem jm_s14 {a : Int} {b d : Nat} (C : jm_Cx p R s mi args meth c D aC ad fmt sc m c0 x0) (rel : jm_Rel D aC ad fmt s (g_m m).2.2.1 c0 s0 x0 L h ls H locs cells slots) (hok : jm_ok2 (g_lnk m pc) (g_m m).1 m pc (14, a, b, d) = true)
    (hst : jm_putf (14, a, b, d) pc L S h = some (pc', L', S', h'))
    (nx : jm_Nx p l e R s mi args below meth c Q D aC ad fmt (g_m m).2.2.1 c0 s0 x0 pc' L' S' h') : W p l e R s mi args below meth c H locs cells slots Q (F0 mi pc ls (S.map (jm_cv ad fmt))) := by
  obtain ⟨hx, hb, hml, hown, hts, hG, hnm, hfr, hlo⟩ := C
  simp only [jm_ok2, Bool.and_eq_true, decide_eq_true_eq] at hok
  obtain ⟨⟨⟨⟨⟨hd, ha0⟩, hft⟩, hbl⟩, hw⟩, hfin⟩ := hok
  match S, hst with
  | [], hst => cases hst
  | [_], hst => cases hst
  | v :: o :: r, hst =>
    unfold jm_putf at hst
    dsimp only at hst
    split at hst
    · rename_i ho
      cases hcl : jm_cell h o.2 with
      | none => rw [hcl] at hst; cases hst
      | some cc =>
        rw [hcl] at hst
        dsimp only at hst
        split at hst
        · rename_i hk
          cases hst
          obtain ⟨h0, h1, h2⟩ := jm_cellw (aC := aC) (ad := ad) (fmt := fmt) hcl
          rw [jm_ce_obj hk.1] at h2
          obtain ⟨rr, hrr⟩ : ∃ rr, g_cl[b]? = some rr := ⟨_, List.getElem?_eq_getElem hbl⟩
          obtain ⟨C, T, N⟩ := rr
          obtain ⟨f1, f2, f3, f4, f5⟩ := jm_cl_facts hrr
          dsimp only at f1 f2 f3 f4 f5
          have hdN : d < N := by rw [← f5]; exact (List.getElem?_eq_some_iff.mp hft).1
          have hfl : jm_fl b d = T d := by unfold jm_fl; rw [hrr]; rfl
          rw [hfl] at hw hfin
          have hty : jm_tag ((g_yl.getD b g_Y0) d) = a.toNat := Option.some.inj ((f3 d hdN).symm.trans hft)
          obtain ⟨e1, e2, e3⟩ := jm_fitv (ad := ad) (fmt := fmt) ho.2 hty ha0
          have hzl : d < (List.zipWith (fun t z => jm_cv ad fmt (jm_tg t, z)) (g_ft.getD b []) cc.2).length := by
            rw [List.length_zipWith]; omega
          rw [List.map_cons, List.map_cons, jm_cv2 ho.1 h0]
          have key : ∀ (H1 : Heap) (locs1 : List Loc), va_P D g_cl ((jm_ws aC ad fmt h.1).set o.2.toNat (ad 0 + o.2.toNat, .inr (b, (List.zipWith (fun t z => jm_cv ad fmt (jm_tg t, z)) (g_ft.getD b []) cc.2).set d (jm_cv ad fmt v)))) H1 → va_D (jm_A ad) ((jm_ws aC ad fmt h.1).set o.2.toNat (ad 0 + o.2.toNat, .inr (b, (List.zipWith (fun t z => jm_cv ad fmt (jm_tg t, z)) (g_ft.getD b []) cc.2).set d (jm_cv ad fmt v)))) → va_S (jm_A ad) s.heap H1 locs1 → W p l e R s mi args below meth c H1 locs1 cells slots Q (F0 mi (pc + 3) ls (S'.map (jm_cv ad fmt))) := by
            intro H1 locs1 hP1 _ hS1
            refine nx ls H1 locs1 cells slots ⟨rel.1, ?_, hS1, rel.2.2.2.1, ?_, ?_⟩
            · dsimp only
              rw [jm_wsset, jm_ce_obj (c := (cc.1, cc.2.set d v.2)) hk.1]
              dsimp only
              rw [jm_zset (fun t z => jm_cv ad fmt (jm_tg t, z)) _ cc.2 d v.2 a.toNat hft, e3]
              exact hP1
            · rw [rel.2.2.2.2.1]; simp [jm_cn]
            · rw [rel.2.2.2.2.2]
              unfold jm_sl
              dsimp only
              rw [jm_slset h1 (by simp)]
          cases hfb : (T d).2.2.2 with
          | false => exact va_put hx hb hts f1 _ f2 f4 hown hG.1 rel.2.1 (jm_wsD _) rel.2.2.1 o.2.toNat h2 hrr d hdN (hts _ (jm_w_in hw)) (fun x h => h) hfb (f2 d hdN) e1 e2 hzl (jm_dc_eq hd) key
          | true =>
            rw [hfb] at hfin
            simp only [Bool.not_true, Bool.false_or, Bool.and_eq_true, decide_eq_true_eq] at hfin
            exact va_putF hx hb hts f1 _ f2 f4 hown hG.1 rel.2.1 (jm_wsD _) rel.2.2.1 o.2.toNat h2 hrr d hdN (hts _ (jm_w_in hw)) (fun x h => h) hfb (hnm.trans hfin.2) hfin.1 (f2 d hdN) e1 e2 hzl (jm_dc_eq hd) key
        · cases hst
    · cases hst
theorem jm_tysg (k : Nat) : (jm_tys aC)[k]? = match k with | 0 => some (aC 0, .int) | 1 => some (aC 1, .byte) | 2 => some (aC 2, .long) | 3 => some (aC 3, .boolean) | 4 => some (aC 4, .object "RideLaws$State") | _ => none := by
  match k with
  | 0 => rfl
  | 1 => rfl
  | 2 => rfl
  | 3 => rfl
  | 4 => rfl
  | k + 5 => rfl
theorem jm_ald_inv {a : Int} {b d : Nat} (hst : jm_ald (15, a, b, d) pc L S h = some (pc', L', S', h')) : ∃ (j o : jm_V) (r : List jm_V) (cc : jm_C) (n : Nat), S = j :: o :: r ∧ j.1 = 0 ∧ o.1 = 2 ∧ jm_cell h o.2 = some cc ∧ ((b = 0 ∧ cc.1 = 0) ∨ (b = 1 ∧ (cc.1 = 1 ∨ cc.1 = 3)) ∨ (b = 2 ∧ cc.1 = 2) ∨ (b = 3 ∧ cc.1 = 4)) ∧ jm_ix j.2 cc.2.length = some n ∧ pc' = pc + 1 ∧ L' = L ∧ S' = (if b = 2 then 1 else if b = 3 then 2 else 0, cc.2.getD n 0) :: r ∧ h' = h := by
  match S, hst with
  | [], hst' => cases hst'
  | [_], hst' => cases hst'
  | j :: o :: r, hst' =>
    unfold jm_ald at hst'
    dsimp only at hst'
    split at hst'
    · rename_i h1
      cases hcl : jm_cell h o.2 with
      | none => rw [hcl] at hst'; cases hst'
      | some cc =>
        rw [hcl] at hst'
        dsimp only at hst'
        split at hst'
        · rename_i h2
          cases hix : jm_ix j.2 cc.2.length with
          | none => rw [hix] at hst'; cases hst'
          | some n =>
            rw [hix] at hst'
            cases hst'
            exact ⟨j, o, r, cc, n, rfl, h1.1, h1.2, hcl, h2, hix, rfl, rfl, rfl, rfl⟩
        · cases hst'
    · cases hst'
theorem jm_s15 {a : Int} {b d : Nat} (C : jm_Cx p R s mi args meth c D aC ad fmt sc m c0 x0) (rel : jm_Rel D aC ad fmt s (g_m m).2.2.1 c0 s0 x0 L h ls H locs cells slots) (hok : jm_ok2 (g_lnk m pc) (g_m m).1 m pc (15, a, b, d) = true)
    (hst : jm_ald (15, a, b, d) pc L S h = some (pc', L', S', h'))
    (nx : jm_Nx p l e R s mi args below meth c Q D aC ad fmt (g_m m).2.2.1 c0 s0 x0 pc' L' S' h') : W p l e R s mi args below meth c H locs cells slots Q (F0 mi pc ls (S.map (jm_cv ad fmt))) := by
  obtain ⟨hx, hb, hml, hown, hts, hG, hnm, hfr, hlo⟩ := C
  obtain ⟨j, o, r, cc, n, rfl, hj, ho, hcl, hk, hix, rfl, rfl, rfl, rfl⟩ := jm_ald_inv hst
  clear hst
  obtain ⟨g0, g1, g2⟩ := jm_cellw (aC := aC) (ad := ad) (fmt := fmt) hcl
  obtain ⟨i1, i2, i3⟩ := jm_nl_in hix
  have nx' := nx ls H locs cells slots rel
  rw [List.map_cons] at nx'
  rw [List.map_cons, List.map_cons, jm_cv0 hj, jm_cv2 ho g0]
  rcases hk with ⟨rfl, hk⟩ | ⟨rfl, hk | hk⟩ | ⟨rfl, hk⟩ | ⟨rfl, hk⟩
  · rw [jm_ce_0 hk] at g2
    exact va_iald hx hb hG.1 rel.2.1 o.2.toNat 0 g2 rfl i1 (jm_dc_eq (show jm_dc _ pc .iaload 1 = true from hok)) (by rw [i2]; exact nx')
  · rw [jm_ce_1 hk] at g2
    exact va_bald hx hb hG.1 rel.2.1 o.2.toNat 1 g2 rfl i1 (jm_dc_eq (show jm_dc _ pc .baload 1 = true from hok)) (by rw [i2]; exact nx')
  · rw [jm_ce_3 hk] at g2
    exact va_zald hx hb hG.1 rel.2.1 o.2.toNat 3 g2 rfl i1 (jm_dc_eq (show jm_dc _ pc .baload 1 = true from hok)) (by rw [i2]; exact nx')
  · rw [jm_ce_2 hk] at g2
    exact va_lald hx hb hG.1 rel.2.1 o.2.toNat 2 g2 rfl i1 (jm_dc_eq (show jm_dc _ pc .laload 1 = true from hok)) (by rw [i2]; exact nx')
  · rw [jm_ce_4 hk] at g2
    refine va_aldq hx hb hG.1 rel.2.1 o.2.toNat 4 g2 rfl i1 (jm_dc_eq (show jm_dc _ pc .aaload 1 = true from hok)) ?_
    rw [i2]
    have e1 : jm_cv ad fmt (2, cc.2.getD n 0) = va_rf (if cc.2.getD n 0 < 0 then none else some (ad 0 + (cc.2.getD n 0).toNat)) := by
      show (if cc.2.getD n 0 < 0 then Value.null else Value.ref _) = _
      split <;> rfl
    rw [← e1]
    exact nx'
theorem jm_ast_inv {a : Int} {b d : Nat} (hst : jm_ast (16, a, b, d) pc L S h = some (pc', L', S', h')) : ∃ (v j o : jm_V) (r : List jm_V) (cc : jm_C) (n : Nat) (z : Int), S = v :: j :: o :: r ∧ j.1 = 0 ∧ o.1 = 2 ∧ jm_cell h o.2 = some cc ∧ jm_ix j.2 cc.2.length = some n ∧ pc' = pc + 1 ∧ L' = L ∧ S' = r ∧ h' = (h.1.set o.2.toNat (cc.1, cc.2.set n z), h.2) ∧ ((b = 0 ∧ cc.1 = 0 ∧ v.1 = 0 ∧ z = v.2) ∨ (b = 1 ∧ cc.1 = 1 ∧ v.1 = 0 ∧ z = jm_b v.2) ∨ (b = 1 ∧ cc.1 = 3 ∧ v.1 = 0 ∧ z = jm_z v.2) ∨ (b = 2 ∧ cc.1 = 2 ∧ v.1 = 1 ∧ z = v.2) ∨ (b = 3 ∧ cc.1 = 4 ∧ v.1 = 2 ∧ z = v.2 ∧ ∃ c', jm_cell h v.2 = some c' ∧ c'.1 = 10 + d)) := by
  match S, hst with
  | [], hst' => cases hst'
  | [_], hst' => cases hst'
  | [_, _], hst' => cases hst'
  | v :: j :: o :: r, hst' =>
    unfold jm_ast at hst'
    dsimp only at hst'
    split at hst'
    · rename_i h1
      cases hcl : jm_cell h o.2 with
      | none => rw [hcl] at hst'; cases hst'
      | some cc =>
        rw [hcl] at hst'
        dsimp only at hst'
        cases hix : jm_ix j.2 cc.2.length with
        | none => rw [hix] at hst'; cases hst'
        | some n =>
          rw [hix] at hst'
          dsimp only at hst'
          split at hst'
          · rename_i h2
            cases hst'
            exact ⟨v, j, o, _, cc, n, _, rfl, h1.1, h1.2, hcl, hix, rfl, rfl, rfl, rfl, Or.inl ⟨h2.1, h2.2.1, h2.2.2, rfl⟩⟩
          · split at hst'
            · rename_i h2
              cases hst'
              exact ⟨v, j, o, _, cc, n, _, rfl, h1.1, h1.2, hcl, hix, rfl, rfl, rfl, rfl, Or.inr (Or.inl ⟨h2.1, h2.2.1, h2.2.2, rfl⟩)⟩
            · split at hst'
              · rename_i h2
                cases hst'
                exact ⟨v, j, o, _, cc, n, _, rfl, h1.1, h1.2, hcl, hix, rfl, rfl, rfl, rfl, Or.inr (Or.inr (Or.inl ⟨h2.1, h2.2.1, h2.2.2, rfl⟩))⟩
              · split at hst'
                · rename_i h2
                  cases hst'
                  exact ⟨v, j, o, _, cc, n, _, rfl, h1.1, h1.2, hcl, hix, rfl, rfl, rfl, rfl, Or.inr (Or.inr (Or.inr (Or.inl ⟨h2.1, h2.2.1, h2.2.2, rfl⟩)))⟩
                · split at hst'
                  · rename_i h2
                    cases hc2 : jm_cell h v.2 with
                    | none => rw [hc2] at hst'; cases hst'
                    | some c' =>
                      rw [hc2] at hst'
                      dsimp only at hst'
                      split at hst'
                      · rename_i h3
                        cases hst'
                        exact ⟨v, j, o, _, cc, n, _, rfl, h1.1, h1.2, hcl, hix, rfl, rfl, rfl, rfl, Or.inr (Or.inr (Or.inr (Or.inr ⟨h2.1, h2.2.1, h2.2.2, rfl, c', hc2, h3⟩)))⟩
                      · cases hst'
                  · cases hst'
    · cases hst'
theorem jm_s16 {a : Int} {b d : Nat} (C : jm_Cx p R s mi args meth c D aC ad fmt sc m c0 x0) (rel : jm_Rel D aC ad fmt s (g_m m).2.2.1 c0 s0 x0 L h ls H locs cells slots) (hok : jm_ok2 (g_lnk m pc) (g_m m).1 m pc (16, a, b, d) = true)
    (hst : jm_ast (16, a, b, d) pc L S h = some (pc', L', S', h'))
    (nx : jm_Nx p l e R s mi args below meth c Q D aC ad fmt (g_m m).2.2.1 c0 s0 x0 pc' L' S' h') : W p l e R s mi args below meth c H locs cells slots Q (F0 mi pc ls (S.map (jm_cv ad fmt))) := by
  obtain ⟨hx, hb, hml, hown, hts, hG, hnm, hfr, hlo⟩ := C
  obtain ⟨v, j, o, r, cc, n, z, rfl, hj, ho, hcl, hix, rfl, rfl, rfl, rfl, hk⟩ := jm_ast_inv hst
  clear hst
  obtain ⟨g0, g1, g2⟩ := jm_cellw (aC := aC) (ad := ad) (fmt := fmt) hcl
  obtain ⟨i1, i2, i3⟩ := jm_nl_in hix
  have hok2 := Bool.and_eq_true_iff.mp hok
  have hok1 := hok2.1
  have hst2 : (g_cl[d]?).map (fun r => r.1) = some "RideLaws$State" := of_decide_eq_true hok2.2
  clear hok hok2
  rw [List.map_cons, List.map_cons, List.map_cons, jm_cv0 hj, jm_cv2 ho g0]
  have key : ∀ (E : va_E), jm_ce aC ad fmt (cc.1, cc.2.set n z) = E → ∀ (H1 : Heap) (locs1 : List Loc), va_P D g_cl ((jm_ws aC ad fmt h.1).set o.2.toNat (ad 0 + o.2.toNat, E)) H1 → va_D (jm_A ad) ((jm_ws aC ad fmt h.1).set o.2.toNat (ad 0 + o.2.toNat, E)) → va_S (jm_A ad) s.heap H1 locs1 → W p l e R s mi args below meth c H1 locs1 cells slots Q (F0 mi (pc + 1) ls (S'.map (jm_cv ad fmt))) := by
    intro E hE H1 locs1 hP1 _ hS1
    refine nx ls H1 locs1 cells slots ⟨rel.1, ?_, hS1, rel.2.2.2.1, ?_, ?_⟩
    · dsimp only
      rw [jm_wsset, hE]
      exact hP1
    · rw [rel.2.2.2.2.1]; simp [jm_cn]
    · rw [rel.2.2.2.2.2]
      unfold jm_sl
      dsimp only
      rw [jm_slset g1 (by simp)]
  rcases hk with ⟨rfl, hk, hv, rfl⟩ | ⟨rfl, hk, hv, rfl⟩ | ⟨rfl, hk, hv, rfl⟩ | ⟨rfl, hk, hv, rfl⟩ | ⟨rfl, hk, hv, rfl, c', hc', hd'⟩
  · rw [jm_ce_0 hk] at g2
    rw [jm_cv0 hv]
    exact va_iast hx hb hG.1 rel.2.1 (jm_wsD _) rel.2.2.1 o.2.toNat 0 g2 rfl i1 (jm_dc_eq (show jm_dc _ pc .iastore 1 = true from hok1)) (key _ (by rw [jm_ce_0 (c := (cc.1, cc.2.set n v.2)) hk, i2, jm_updI _ _ i3]; simp))
  · rw [jm_ce_1 hk] at g2
    rw [jm_cv0 hv]
    refine va_bast hx hb hG.1 rel.2.1 (jm_wsD _) rel.2.2.1 o.2.toNat 1 g2 rfl i1 (jm_dc_eq (show jm_dc _ pc .bastore 1 = true from hok1)) (key _ ?_)
    rw [jm_ce_1 (c := (cc.1, cc.2.set n (jm_b v.2))) hk, i2, ← jm_of32 (vp_nar .byte (Int32.ofInt v.2)), jm_updI _ _ i3]
    simp [jm_b]
  · rw [jm_ce_3 hk] at g2
    rw [jm_cv0 hv]
    refine va_zast hx hb hG.1 rel.2.1 (jm_wsD _) rel.2.2.1 o.2.toNat 3 g2 rfl i1 (jm_dc_eq (show jm_dc _ pc .bastore 1 = true from hok1)) (key _ ?_)
    rw [jm_ce_3 (c := (cc.1, cc.2.set n (jm_z v.2))) hk, i2, ← jm_of32 (vp_nar .boolean (Int32.ofInt v.2)), jm_updI _ _ i3]
    simp [jm_z]
  · rw [jm_ce_2 hk] at g2
    rw [jm_cv1 hv]
    exact va_last hx hb hG.1 rel.2.1 (jm_wsD _) rel.2.2.1 o.2.toNat 2 g2 rfl i1 (jm_dc_eq (show jm_dc _ pc .lastore 1 = true from hok1)) (key _ (by rw [jm_ce_2 (c := (cc.1, cc.2.set n v.2)) hk, i2, jm_updL _ _ i3]; simp))
  · rw [jm_ce_4 hk] at g2
    obtain ⟨k0, k1, k2⟩ := jm_cellw (aC := aC) (ad := ad) (fmt := fmt) hc'
    rw [jm_ce_obj hd'] at k2
    rw [jm_cv2 hv k0]
    cases hr : g_cl[d]? with
    | none => rw [hr] at hst2; cases hst2
    | some rr =>
      rw [hr] at hst2
      have e2 : rr.1 = "RideLaws$State" := Option.some.inj hst2
      refine va_astq hx hb hG.1 rel.2.1 (jm_wsD _) rel.2.2.1 o.2.toNat 4 v.2.toNat d g2 (by rw [e2]; rfl) k2 hr i1 (jm_dc_eq (show jm_dc _ pc .aastore 1 = true from hok1)) (key _ ?_)
      have e3 : (fun j => if (cc.2.set n v.2).getD j 0 < 0 then none else some (ad 0 + ((cc.2.set n v.2).getD j 0).toNat)) = va_up (fun j => if cc.2.getD j 0 < 0 then none else some (ad 0 + (cc.2.getD j 0).toNat)) n (some (ad 0 + v.2.toNat)) := by
        funext q
        rw [jm_getD_set _ _ _ _ i3]
        unfold va_up
        by_cases hq : q = n
        · simp only [if_pos hq]
          rw [if_neg (by omega)]
        · simp only [if_neg hq]
      rw [jm_ce_4 (c := (cc.1, cc.2.set n v.2)) hk, i2]
      dsimp only
      rw [e3, List.length_set]
end
