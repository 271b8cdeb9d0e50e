section
variable {p : Program} {l : Launch} {e : Env} {R : Room} {s : State} {mi : MethodId} {args : Array Value} {below : List Frame} {meth : Method} {c : Code} {Q : State → Prop}
variable {D : va_G} {aC : Nat → ClassId} {ad : Nat → Nat} {fmt : Value} {sc : List Int} {m c0 s0 x0 : Nat}
variable {pc pc' : Nat} {L L' : jm_L} {S S' : List jm_V} {h h' : jm_H} {ls : Array Slot} {H : Heap} {locs : List Loc} {cells slots : Nat}
theorem jm_of32 (x : Int32) : Int32.ofInt x.toInt = x := Int32.ofInt_toInt x
theorem jm_of64 (x : Int64) : Int64.ofInt x.toInt = x := Int64.ofInt_toInt x
theorem jm_n0 {y : Int} (hy : ¬ jm_n y = 0) : ¬ Int32.ofInt y = 0 := fun q => hy (by unfold jm_n; rw [q]; rfl)
theorem jm_div (x y : Int) : Int32.ofInt ((jm_n x).tdiv (jm_n y)) = Int32.ofInt x / Int32.ofInt y := by
  apply Int32.toInt_inj.mp
  rw [Int32.toInt_div, Int32.toInt_ofInt]
  rfl
theorem jm_rem (x y : Int) : Int32.ofInt ((jm_n x).tmod (jm_n y)) = Int32.ofInt x - Int32.ofInt x / Int32.ofInt y * Int32.ofInt y := by
  rw [Int.tmod_def, Int32.ofInt_sub, Int32.ofInt_mul, jm_div, Int32.mul_comm]
  unfold jm_n
  rw [jm_of32, jm_of32]
theorem jm_s5 {a : Int} {b d : Nat} (C : jm_Cx p R s mi args meth c D aC ad fmt sc m c0 x0) (rel : jm_Rel D aC ad fmt s (g_m m).2.2.1 c0 s0 x0 L h ls H locs cells slots) (hok : jm_ok1 (g_lnk m pc) (g_m m).1 m (g_m m).2.2.1 pc (5, a, b, d) = true)
    (hst : jm_arith (5, a, b, d) pc L S h = some (pc', L', S', h'))
    (nx : jm_Nx p l e R s mi args below meth c Q D aC ad fmt (g_m m).2.2.1 c0 s0 x0 pc' L' S' h') : W p l e R s mi args below meth c H locs cells slots Q (F0 mi pc ls (S.map (jm_cv ad fmt))) := by
  obtain ⟨hx, hb, hml, hown, hts, hG, hnm, hfr, hlo⟩ := C
  have hd := jm_dc_eq (show jm_dc _ pc (jm_bi b) 1 = true from hok)
  match S, hst with
  | [], hst => cases hst
  | [_], hst => cases hst
  | y :: x :: r, hst =>
    unfold jm_arith at hst
    dsimp only at hst
    split at hst
    · rename_i hc
      cases hz : jm_bin b x.2 y.2 with
      | none => rw [hz] at hst; cases hst
      | some z =>
        rw [hz] at hst
        cases hst
        have nx' := nx ls H locs cells slots rel
        rw [List.map_cons, jm_cv0 (v := (0, z)) rfl] at nx'
        rw [List.map_cons, List.map_cons, jm_cv0 hc.1, jm_cv0 hc.2]
        match b, hd, hz with
        | 0, hd, hz => cases hz; rw [Int32.ofInt_add] at nx'; exact lv_iadd hx hb hd nx'
        | 1, hd, hz => cases hz; rw [Int32.ofInt_sub] at nx'; exact lv_isub hx hb hd nx'
        | 2, hd, hz => cases hz; rw [Int32.ofInt_mul] at nx'; exact lv_imul hx hb hd nx'
        | 3, hd, hz => cases hz; rw [jm_of32] at nx'; exact lv_iand hx hb hd nx'
        | 4, hd, hz => cases hz; rw [jm_of32] at nx'; exact lv_ior hx hb hd nx'
        | 5, hd, hz => cases hz; rw [jm_of32] at nx'; exact lv_ixor hx hb hd nx'
        | 6, hd, hz => cases hz; rw [jm_of32] at nx'; exact lv_ishl hx hb hd nx'
        | 7, hd, hz => cases hz; rw [jm_of32] at nx'; exact lv_ishr hx hb hd nx'
        | 8, hd, hz => cases hz; rw [jm_of32] at nx'; exact lv_iushr hx hb hd rfl nx'
        | 9, hd, hz =>
          have hz : (if jm_n y.2 = 0 then none else some ((jm_n x.2).tdiv (jm_n y.2))) = some z := hz
          split at hz
          · cases hz
          · rename_i hy
            cases hz
            rw [jm_div] at nx'
            exact lv_idiv hx hb hd (jm_n0 hy) nx'
        | 10, hd, hz =>
          have hz : (if jm_n y.2 = 0 then none else some ((jm_n x.2).tmod (jm_n y.2))) = some z := hz
          split at hz
          · cases hz
          · rename_i hy
            cases hz
            rw [jm_rem] at nx'
            exact lv_irem hx hb hd (jm_n0 hy) nx'
        | b + 11, hd, hz => cases hz
    · cases hst
theorem jm_s6 {a : Int} {b d : Nat} (C : jm_Cx p R s mi args meth c D aC ad fmt sc m c0 x0) (rel : jm_Rel D aC ad fmt s (g_m m).2.2.1 c0 s0 x0 L h ls H locs cells slots) (hok : jm_ok1 (g_lnk m pc) (g_m m).1 m (g_m m).2.2.1 pc (6, a, b, d) = true)
    (hst : jm_larith (6, a, b, d) pc L S h = some (pc', L', S', h'))
    (nx : jm_Nx p l e R s mi args below meth c Q D aC ad fmt (g_m m).2.2.1 c0 s0 x0 pc' L' S' h') : W p l e R s mi args below meth c H locs cells slots Q (F0 mi pc ls (S.map (jm_cv ad fmt))) := by
  obtain ⟨hx, hb, hml, hown, hts, hG, hnm, hfr, hlo⟩ := C
  have hd := jm_dc_eq (show jm_dc _ pc (jm_lbi b) 1 = true from hok)
  match S, hst with
  | [], hst => cases hst
  | [_], hst => cases hst
  | y :: x :: r, hst =>
    unfold jm_larith at hst
    dsimp only at hst
    split at hst
    · rename_i hc
      cases hz : jm_lbin b x.2 y.2 with
      | none => rw [hz] at hst; cases hst
      | some z =>
        rw [hz] at hst
        cases hst
        have nx' := nx ls H locs cells slots rel
        rw [List.map_cons, jm_cv1 (v := (1, z)) rfl] at nx'
        rw [List.map_cons, List.map_cons, jm_cv1 hc.1, jm_cv1 hc.2]
        match b, hd, hz with
        | 0, hd, hz => cases hz; rw [Int64.ofInt_add] at nx'; exact lv_ladd hx hb hd nx'
        | 1, hd, hz => cases hz; rw [Int64.ofInt_mul] at nx'; exact lv_lmul hx hb hd nx'
        | 2, hd, hz => cases hz; rw [jm_of64] at nx'; exact lv_land hx hb hd nx'
        | 3, hd, hz => cases hz; rw [jm_of64] at nx'; exact lv_lor hx hb hd nx'
        | b + 4, hd, hz => cases hz
    · split at hst
      · rename_i hc
        cases hz : jm_lsh b x.2 y.2 with
        | none => rw [hz] at hst; cases hst
        | some z =>
          rw [hz] at hst
          cases hst
          have nx' := nx ls H locs cells slots rel
          rw [List.map_cons, jm_cv1 (v := (1, z)) rfl] at nx'
          rw [List.map_cons, List.map_cons, jm_cv1 hc.1, jm_cv0 hc.2]
          match b, hd, hz with
          | 0, hd, hz => cases hz
          | 1, hd, hz => cases hz
          | 2, hd, hz => cases hz
          | 3, hd, hz => cases hz
          | 4, hd, hz => cases hz; rw [jm_of64] at nx'; exact lv_lshl hx hb hd rfl nx'
          | 5, hd, hz => cases hz; rw [jm_of64] at nx'; exact lv_lshr hx hb hd rfl nx'
          | b + 6, hd, hz => cases hz
      · cases hst
theorem jm_s7 {a : Int} {b d : Nat} (C : jm_Cx p R s mi args meth c D aC ad fmt sc m c0 x0) (rel : jm_Rel D aC ad fmt s (g_m m).2.2.1 c0 s0 x0 L h ls H locs cells slots) (hok : jm_ok1 (g_lnk m pc) (g_m m).1 m (g_m m).2.2.1 pc (7, a, b, d) = true)
    (hst : jm_conv (7, a, b, d) pc L S h = some (pc', L', S', h'))
    (nx : jm_Nx p l e R s mi args below meth c Q D aC ad fmt (g_m m).2.2.1 c0 s0 x0 pc' L' S' h') : W p l e R s mi args below meth c H locs cells slots Q (F0 mi pc ls (S.map (jm_cv ad fmt))) := by
  obtain ⟨hx, hb, hml, hown, hts, hG, hnm, hfr, hlo⟩ := C
  have hd := jm_dc_eq (show jm_dc _ pc (jm_cvi b) 1 = true from hok)
  match S, hst with
  | [], hst' => cases hst'
  | x :: r, hst' =>
    unfold jm_conv at hst'
    dsimp only at hst'
    rw [List.map_cons]
    split at hst'
    · rename_i hc
      obtain ⟨rfl, h2⟩ := hc
      cases hst'
      have nx' := nx ls H locs cells slots rel
      rw [List.map_cons, jm_cv1 (v := (1, _)) rfl, jm_of64] at nx'
      rw [jm_cv0 h2]
      exact lv_i2l hx hb hd rfl nx'
    · split at hst'
      · rename_i hc
        obtain ⟨rfl, h2⟩ := hc
        cases hst'
        have nx' := nx ls H locs cells slots rel
        rw [List.map_cons, jm_cv0 (v := (0, _)) rfl, jm_of32] at nx'
        rw [jm_cv1 h2]
        exact lv_l2i hx hb hd rfl nx'
      · split at hst'
        · rename_i hc
          obtain ⟨rfl, h2⟩ := hc
          cases hst'
          have nx' := nx ls H locs cells slots rel
          rw [List.map_cons, jm_cv0 (v := (0, _)) rfl, jm_of32] at nx'
          rw [jm_cv0 h2]
          exact lv_i2b hx hb hd rfl nx'
        · split at hst'
          · rename_i hc
            obtain ⟨rfl, h2⟩ := hc
            cases hst'
            have nx' := nx ls H locs cells slots rel
            rw [List.map_cons, jm_cv0 (v := (0, _)) rfl, jm_of32] at nx'
            rw [jm_cv0 h2]
            exact lv_i2c hx hb hd rfl nx'
          · cases hst'
theorem jm_s8 {a : Int} {b d : Nat} (C : jm_Cx p R s mi args meth c D aC ad fmt sc m c0 x0) (rel : jm_Rel D aC ad fmt s (g_m m).2.2.1 c0 s0 x0 L h ls H locs cells slots) (hok : jm_ok1 (g_lnk m pc) (g_m m).1 m (g_m m).2.2.1 pc (8, a, b, d) = true)
    (hst : jm_stack (8, a, b, d) pc L S h = some (pc', L', S', h'))
    (nx : jm_Nx p l e R s mi args below meth c Q D aC ad fmt (g_m m).2.2.1 c0 s0 x0 pc' L' S' h') : W p l e R s mi args below meth c H locs cells slots Q (F0 mi pc ls (S.map (jm_cv ad fmt))) := by
  obtain ⟨hx, hb, hml, hown, hts, hG, hnm, hfr, hlo⟩ := C
  have hf := jm_fc hG.2.2.2.2.2.2.2.2.2.2.2.2
  have hd := jm_dc_eq (show jm_dc _ pc (if b = 0 then .dup else if b = 1 then .pop else .dup2) 1 = true from hok)
  match S, hst with
  | [], hst => cases hst
  | x :: r, hst =>
    unfold jm_stack at hst
    dsimp only at hst
    split at hst
    · cases hst
    · rename_i hx1
      have hcx : (jm_cv ad fmt x).category = 1 := by rw [jm_cvc hf, if_neg hx1]
      split at hst
      · rename_i hb0
        cases hst
        rw [if_pos hb0] at hd
        exact lv_dup hx hb hd hcx (nx ls H locs cells slots rel)
      · rename_i hb0
        rw [if_neg hb0] at hd
        split at hst
        · rename_i hb1
          cases hst
          rw [if_pos hb1] at hd
          exact lv_pop hx hb hd hcx (nx ls H locs cells slots rel)
        · rename_i hb1
          rw [if_neg hb1] at hd
          match r, hst with
          | [], hst => cases hst
          | y :: r', hst =>
            dsimp only at hst
            split at hst
            · cases hst
            · rename_i hy1
              cases hst
              have hcy : (jm_cv ad fmt y).category = 1 := by rw [jm_cvc hf, if_neg hy1]
              exact lv_dup2_11 hx hb hd hcx hcy (nx ls H locs cells slots rel)
theorem jm_nn (z : Int) : (Int32.ofInt z).toInt = jm_n z := rfl
theorem jm_eqI (x y : Int) : (Int32.ofInt x = Int32.ofInt y) ↔ jm_n x = jm_n y := ⟨fun q => by unfold jm_n; rw [q], fun q => Int32.toInt_inj.mp q⟩
theorem jm_ltI (x y : Int) : (Int32.ofInt x < Int32.ofInt y) ↔ jm_n x < jm_n y := Int32.lt_iff_toInt_lt
theorem jm_leI (x y : Int) : (Int32.ofInt x ≤ Int32.ofInt y) ↔ jm_n x ≤ jm_n y := Int32.le_iff_toInt_le
theorem jm_s9 {a : Int} {b d : Nat} (C : jm_Cx p R s mi args meth c D aC ad fmt sc m c0 x0) (rel : jm_Rel D aC ad fmt s (g_m m).2.2.1 c0 s0 x0 L h ls H locs cells slots) (hok : jm_ok1 (g_lnk m pc) (g_m m).1 m (g_m m).2.2.1 pc (9, a, b, d) = true)
    (hst : jm_if (9, a, b, d) pc L S h = some (pc', L', S', h'))
    (nx : jm_Nx p l e R s mi args below meth c Q D aC ad fmt (g_m m).2.2.1 c0 s0 x0 pc' L' S' h') : W p l e R s mi args below meth c H locs cells slots Q (F0 mi pc ls (S.map (jm_cv ad fmt))) := by
  obtain ⟨hx, hb, hml, hown, hts, hG, hnm, hfr, hlo⟩ := C
  have hd := jm_dc_eq (show jm_dc _ pc (jm_if1 b ((d : Int) - pc)) 3 = true from hok)
  have ht : (pc : Int) + ((d : Int) - pc) = (d : Int) := by omega
  match S, hst with
  | [], hst => cases hst
  | x :: r, hst =>
    unfold jm_if at hst
    dsimp only at hst
    split at hst
    · rename_i hc
      cases hst
      have nx' := nx ls H locs cells slots rel
      rw [List.map_cons, jm_cv0 hc]
      have e0 : jm_n 0 = 0 := rfl
      have z0 : (0 : Int32) = Int32.ofInt 0 := rfl
      match b, hd, nx' with
      | 0, hd, nx' => exact lv_if_eq hx hb hd ht (fun q => by rw [z0, jm_eqI] at q; simpa [jm_cnd, q] using nx') (fun q => by rw [z0, jm_eqI] at q; simpa [jm_cnd, q] using nx')
      | 1, hd, nx' => exact lv_if_ne hx hb hd ht (fun q => by rw [z0, jm_eqI] at q; simpa [jm_cnd, q] using nx') (fun q => by rw [z0, jm_eqI] at q; simpa [jm_cnd, q] using nx')
      | 2, hd, nx' => exact lv_if_lt hx hb hd ht (fun q => by rw [z0, jm_ltI] at q; simpa [jm_cnd, q] using nx') (fun q => by rw [z0, jm_ltI] at q; simpa [jm_cnd, q] using nx')
      | 3, hd, nx' => exact lv_if_ge hx hb hd ht (fun q => by rw [z0, jm_leI] at q; simpa [jm_cnd, q] using nx') (fun q => by rw [z0, jm_leI] at q; simpa [jm_cnd, q] using nx')
      | 4, hd, nx' => exact lv_if_gt hx hb hd ht (fun q => by rw [z0, jm_ltI] at q; simpa [jm_cnd, q] using nx') (fun q => by rw [z0, jm_ltI] at q; simpa [jm_cnd, q] using nx')
      | b + 5, hd, nx' => exact lv_if_le hx hb hd ht (fun q => by rw [z0, jm_leI] at q; simpa [jm_cnd, q] using nx') (fun q => by rw [z0, jm_leI] at q; simpa [jm_cnd, q] using nx')
    · cases hst
theorem jm_s10 {a : Int} {b d : Nat} (C : jm_Cx p R s mi args meth c D aC ad fmt sc m c0 x0) (rel : jm_Rel D aC ad fmt s (g_m m).2.2.1 c0 s0 x0 L h ls H locs cells slots) (hok : jm_ok1 (g_lnk m pc) (g_m m).1 m (g_m m).2.2.1 pc (10, a, b, d) = true)
    (hst : jm_if2 (10, a, b, d) pc L S h = some (pc', L', S', h'))
    (nx : jm_Nx p l e R s mi args below meth c Q D aC ad fmt (g_m m).2.2.1 c0 s0 x0 pc' L' S' h') : W p l e R s mi args below meth c H locs cells slots Q (F0 mi pc ls (S.map (jm_cv ad fmt))) := by
  obtain ⟨hx, hb, hml, hown, hts, hG, hnm, hfr, hlo⟩ := C
  have hd := jm_dc_eq (show jm_dc _ pc (jm_ifc b ((d : Int) - pc)) 3 = true from hok)
  have ht : (pc : Int) + ((d : Int) - pc) = (d : Int) := by omega
  match S, hst with
  | [], hst => cases hst
  | [_], hst => cases hst
  | y :: x :: r, hst =>
    unfold jm_if2 at hst
    dsimp only at hst
    split at hst
    · rename_i hc
      cases hst
      have nx' := nx ls H locs cells slots rel
      rw [List.map_cons, List.map_cons, jm_cv0 hc.1, jm_cv0 hc.2]
      match b, hd, nx' with
      | 0, hd, nx' => exact lv_icmp_eq hx hb hd ht (fun q => by rw [jm_eqI] at q; simpa [jm_cnd, q] using nx') (fun q => by rw [jm_eqI] at q; simpa [jm_cnd, q] using nx')
      | 1, hd, nx' => exact lv_icmp_ne hx hb hd ht (fun q => by rw [jm_eqI] at q; simpa [jm_cnd, q] using nx') (fun q => by rw [jm_eqI] at q; simpa [jm_cnd, q] using nx')
      | 2, hd, nx' => exact lv_icmp_lt hx hb hd ht (fun q => by rw [jm_ltI] at q; simpa [jm_cnd, q] using nx') (fun q => by rw [jm_ltI] at q; simpa [jm_cnd, q] using nx')
      | 3, hd, nx' => exact lv_icmp_ge hx hb hd ht (fun q => by rw [jm_leI] at q; simpa [jm_cnd, q] using nx') (fun q => by rw [jm_leI] at q; simpa [jm_cnd, q] using nx')
      | 4, hd, nx' => exact lv_icmp_gt hx hb hd ht (fun q => by rw [jm_ltI] at q; simpa [jm_cnd, q] using nx') (fun q => by rw [jm_ltI] at q; simpa [jm_cnd, q] using nx')
      | b + 5, hd, nx' => exact lv_icmp_le hx hb hd ht (fun q => by rw [jm_leI] at q; simpa [jm_cnd, q] using nx') (fun q => by rw [jm_leI] at q; simpa [jm_cnd, q] using nx')
    · cases hst
theorem jm_s11 {a : Int} {b d : Nat} (C : jm_Cx p R s mi args meth c D aC ad fmt sc m c0 x0) (rel : jm_Rel D aC ad fmt s (g_m m).2.2.1 c0 s0 x0 L h ls H locs cells slots) (hok : jm_ok1 (g_lnk m pc) (g_m m).1 m (g_m m).2.2.1 pc (11, a, b, d) = true)
    (nx : jm_Nx p l e R s mi args below meth c Q D aC ad fmt (g_m m).2.2.1 c0 s0 x0 d L S h) : W p l e R s mi args below meth c H locs cells slots Q (F0 mi pc ls (S.map (jm_cv ad fmt))) := by
  obtain ⟨hx, hb, hml, hown, hts, hG, hnm, hfr, hlo⟩ := C
  exact lv_goto hx hb (jm_dc_eq (show jm_dc _ pc (.goto ((d : Int) - pc)) 3 = true from hok)) (by omega) (nx ls H locs cells slots rel)
theorem jm_s12 {a : Int} {b d : Nat} (C : jm_Cx p R s mi args meth c D aC ad fmt sc m c0 x0) (rel : jm_Rel D aC ad fmt s (g_m m).2.2.1 c0 s0 x0 L h ls H locs cells slots) (hok : jm_ok1 (g_lnk m pc) (g_m m).1 m (g_m m).2.2.1 pc (12, a, b, d) = true)
    (hst : jm_lcmp pc L S h = some (pc', L', S', h'))
    (nx : jm_Nx p l e R s mi args below meth c Q D aC ad fmt (g_m m).2.2.1 c0 s0 x0 pc' L' S' h') : W p l e R s mi args below meth c H locs cells slots Q (F0 mi pc ls (S.map (jm_cv ad fmt))) := by
  obtain ⟨hx, hb, hml, hown, hts, hG, hnm, hfr, hlo⟩ := C
  match S, hst with
  | [], hst => cases hst
  | [_], hst => cases hst
  | y :: x :: r, hst =>
    unfold jm_lcmp at hst
    dsimp only at hst
    split at hst
    · rename_i hc
      cases hst
      have nx' := nx ls H locs cells slots rel
      rw [List.map_cons, jm_cv0 (v := (0, _)) rfl] at nx'
      rw [List.map_cons, List.map_cons, jm_cv1 hc.1, jm_cv1 hc.2]
      have e1 : Int32.ofInt (jm_cmp x.2 y.2) = lg_cmp (Int64.ofInt x.2) (Int64.ofInt y.2) := by
        unfold jm_cmp lg_cmp jm_nl
        simp only [gt_iff_lt, Int64.lt_iff_toInt_lt, ← Int64.toInt_inj]
        split
        · rfl
        · split <;> rfl
      dsimp only at nx'
      rw [e1] at nx'
      exact W.lcmp hx hb (jm_dc_eq (show jm_dc _ pc .lcmp 1 = true from hok)) nx'
    · cases hst
end
