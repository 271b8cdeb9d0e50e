/-! each step of the box machine is a step of the Int machine -/
section
variable {σ : Nat → Int} {bx : ax_B} {sc : List Int} {pc p1 : Nat} {L L1 M : jm_L} {S S1 T : List jm_V} {h g : jm_H} {a : Int} {b d : Nat}
def ax_Ok (σ : Nat → Int) (sc : List Int) (i : jm_I) (pc : Nat) (M : jm_L) (T : List jm_V) (g : jm_H) (p1 : Nat) (L1 : jm_L) (S1 : List jm_V) : Prop :=
  ∃ (M1 : jm_L) (T1 : List jm_V), jm_stp sc i pc M T g = some (p1, M1, T1, g) ∧ ax_l σ L1 M1 ∧ ax_s σ S1 T1
theorem ax_load_ok (hs : ax_load (2, a, b, d) pc L S = some (p1, L1, S1)) (hL : ax_l σ L M) (hS : ax_s σ S T) : ax_Ok σ sc (2, a, b, d) pc M T g p1 L1 S1 := by
  unfold ax_load at hs
  dsimp only at hs
  split at hs
  · rename_i v hv
    split at hs
    · rename_i hc
      cases hs
      obtain ⟨w, hw, hvw⟩ := ax_get hL hv
      refine ⟨M, w :: T, ?_, hL, hvw, hS⟩
      show jm_load (2, a, b, d) pc M T g = _
      unfold jm_load
      dsimp only
      rw [hw]
      dsimp only
      rw [if_pos]
      rcases hc with ⟨h1, h2⟩ | ⟨h1, h2⟩ | ⟨h1, h2⟩
      · exact Or.inl ⟨h1, ax_v0 hvw h2⟩
      · rw [ax_ve hvw (by omega)]; exact Or.inr (Or.inl ⟨h1, h2⟩)
      · rw [ax_ve hvw (by omega)]
        exact Or.inr (Or.inr ⟨h1, h2.imp id Or.inr⟩)
    · cases hs
  · cases hs
theorem ax_store_ok (hs : ax_store (3, a, b, d) pc L S = some (p1, L1, S1)) (hL : ax_l σ L M) (hS : ax_s σ S T) : ax_Ok σ sc (3, a, b, d) pc M T g p1 L1 S1 := by
  unfold ax_store at hs
  dsimp only at hs
  split at hs
  · rename_i v r
    obtain ⟨w, U, rfl, hvw, hr⟩ := ax_sc hS
    split at hs
    · rename_i hc
      cases hs
      refine ⟨_, U, ?_, ax_st1 hL hvw, hr⟩
      show jm_store (3, a, b, d) pc M (w :: U) g = _
      unfold jm_store
      dsimp only
      rcases hc with ⟨h1, h2⟩ | ⟨h1, h2, h3⟩
      · rw [if_pos ⟨h1, ax_v0 hvw h2⟩]
      · have e := ax_ve hvw (by omega)
        rw [if_neg (by omega), if_neg (by omega), e, if_pos ⟨h1, h2, h3⟩]
    · cases hs
  · cases hs
theorem ax_inc_ok (hs : ax_inc (4, a, b, d) pc L S = some (p1, L1, S1)) (hL : ax_l σ L M) (hS : ax_s σ S T) : ax_Ok σ sc (4, a, b, d) pc M T g p1 L1 S1 := by
  unfold ax_inc at hs
  dsimp only at hs
  split at hs
  · rename_i v hv
    split at hs
    · rename_i hc
      cases hs
      obtain ⟨w, hw, hvw⟩ := ax_get hL hv
      have e := ax_ve hvw (by omega)
      subst e
      refine ⟨_, T, ?_, ax_st1 hL (ax_vx (by decide)), hS⟩
      show jm_inc (4, a, b, d) pc M T g = _
      unfold jm_inc
      dsimp only
      rw [hw]
      dsimp only
      rw [if_pos hc]
    · cases hs
  · cases hs
theorem ax_bin8 {b : Nat} {x y : Int} (hb : b ≤ 8) : ∃ z, jm_bin b x y = some z := by
  match b, hb with
  | 0, _ => exact ⟨_, rfl⟩
  | 1, _ => exact ⟨_, rfl⟩
  | 2, _ => exact ⟨_, rfl⟩
  | 3, _ => exact ⟨_, rfl⟩
  | 4, _ => exact ⟨_, rfl⟩
  | 5, _ => exact ⟨_, rfl⟩
  | 6, _ => exact ⟨_, rfl⟩
  | 7, _ => exact ⟨_, rfl⟩
  | 8, _ => exact ⟨_, rfl⟩
  | b + 9, hb => omega
theorem ax_arith_ok (hH : ax_H bx σ sc) (hs : ax_arith bx (5, a, b, d) pc L S = some (p1, L1, S1)) (hL : ax_l σ L M) (hS : ax_s σ S T) : ax_Ok σ sc (5, a, b, d) pc M T g p1 L1 S1 := by
  unfold ax_arith at hs
  dsimp only at hs
  split at hs
  · rename_i y x r
    obtain ⟨y', U, rfl, hy, hS2⟩ := ax_sc hS
    obtain ⟨x', V, rfl, hx, hr⟩ := ax_sc hS2
    have key : ∀ z v, y'.1 = 0 → x'.1 = 0 → jm_bin b x'.2 y'.2 = some z → ax_v σ v (0, z) → ax_Ok σ sc (5, a, b, d) pc M (y' :: x' :: V) g (pc + 1) L (v :: r) := by
      intro z v h1 h2 h3 h4
      refine ⟨M, (0, z) :: V, ?_, hL, h4, hr⟩
      show jm_arith (5, a, b, d) pc M (y' :: x' :: V) g = _
      unfold jm_arith
      dsimp only
      rw [if_pos ⟨h1, h2⟩, h3]
      rfl
    split at hs
    · rename_i hc
      obtain ⟨z, hz, e⟩ := Option.map_eq_some_iff.mp hs
      cases e
      have e1 := ax_ve hy (by omega)
      have e2 := ax_ve hx (by omega)
      subst e1; subst e2
      exact key z _ hc.1 hc.2 hz (ax_vx (by decide))
    · split at hs
      · rename_i hc
        have y0 := ax_v0 hy hc.1
        have x0 := ax_v0 hx hc.2
        split at hs
        · rename_i h3
          cases hs
          obtain ⟨h3, h4, h5⟩ := h3
          have e1 := ax_ve hy (by rw [h5]; decide)
          rcases (ax_vu hx (by omega)).2 with h6 | h6
          · omega
          · rw [h4] at h6
            refine key (σ 6) _ y0 x0 ?_ (ax_sym_ok hH (by decide))
            rw [e1, h5, h6, h3]
            exact hH.2.2.2.2
        · split at hs
          · rename_i h8
            cases hs
            rcases h8 with h8 | ⟨h8, h9, h10⟩
            · obtain ⟨z, hz⟩ := ax_bin8 (x := x'.2) (y := y'.2) h8
              exact key z _ y0 x0 hz (ax_v19 rfl)
            · have e1 := ax_ve hy (by omega)
              subst h8
              refine key ((jm_n x'.2).tmod (jm_n y'.2)) _ y0 x0 ?_ (ax_v19 rfl)
              · show (if jm_n y'.2 = 0 then none else some ((jm_n x'.2).tmod (jm_n y'.2))) = _
                rw [if_neg (by rw [e1]; exact h10)]
          · cases hs
      · cases hs
  · cases hs
theorem ax_conv_ok (hs : ax_conv (7, a, b, d) pc L S = some (p1, L1, S1)) (hL : ax_l σ L M) (hS : ax_s σ S T) : ax_Ok σ sc (7, a, b, d) pc M T g p1 L1 S1 := by
  unfold ax_conv at hs
  dsimp only at hs
  split at hs
  · rename_i x r
    obtain ⟨x', U, rfl, hx, hr⟩ := ax_sc hS
    split at hs
    · rename_i hb
      subst hb
      have key : ∀ v, x'.1 = 0 → ax_v σ v (0, (Int32.ofInt x'.2).toInt8.toInt32.toInt) → ax_Ok σ sc (7, a, 2, d) pc M (x' :: U) g (pc + 1) L (v :: r) := by
        intro v h1 h2
        refine ⟨M, _ :: U, ?_, hL, h2, hr⟩
        show jm_conv (7, a, 2, d) pc M (x' :: U) g = _
        unfold jm_conv
        dsimp only
        rw [if_neg (by omega), if_neg (by omega), if_pos ⟨rfl, h1⟩]
      split at hs
      · rename_i h0
        cases hs
        have e := ax_ve hx (by omega)
        subst e
        exact key _ h0 (ax_vx (by decide))
      · split at hs
        · rename_i h19
          cases hs
          exact key _ (ax_vu hx h19).1 (ax_v19 rfl)
        · cases hs
    · cases hs
  · cases hs
theorem ax_stack_ok (hs : ax_stack (8, a, b, d) pc L S = some (p1, L1, S1)) (hL : ax_l σ L M) (hS : ax_s σ S T) : ax_Ok σ sc (8, a, b, d) pc M T g p1 L1 S1 := by
  unfold ax_stack at hs
  dsimp only at hs
  split at hs
  · rename_i x r
    obtain ⟨x', U, rfl, hx, hr⟩ := ax_sc hS
    split at hs
    · cases hs
    · rename_i h1
      have h1' : ¬ x'.1 = 1 := fun q => h1 ((ax_vt hx).mp q)
      split at hs
      · rename_i hb
        cases hs
        refine ⟨M, x' :: x' :: U, ?_, hL, hx, hx, hr⟩
        show jm_stack (8, a, b, d) pc M (x' :: U) g = _
        unfold jm_stack
        dsimp only
        rw [if_neg h1', if_pos hb]
      · rename_i hb
        split at hs
        · rename_i hb1
          cases hs
          refine ⟨M, U, ?_, hL, hr⟩
          show jm_stack (8, a, b, d) pc M (x' :: U) g = _
          unfold jm_stack
          dsimp only
          rw [if_neg h1', if_neg hb, if_pos hb1]
        · rename_i hb1
          split at hs
          · rename_i y r'
            obtain ⟨y', V, rfl, hy, hr'⟩ := ax_sc hr
            split at hs
            · cases hs
            · rename_i h2
              cases hs
              refine ⟨M, x' :: y' :: x' :: y' :: V, ?_, hL, hx, hy, hx, hy, hr'⟩
              show jm_stack (8, a, b, d) pc M (x' :: y' :: V) g = _
              unfold jm_stack
              dsimp only
              rw [if_neg h1', if_neg hb, if_neg hb1, if_neg (fun q => h2 ((ax_vt hy).mp q))]
          · cases hs
  · cases hs
theorem ax_if_ok (hH : ax_H bx σ sc) (hs : ax_if bx (9, a, b, d) pc L S = some (p1, L1, S1)) (hL : ax_l σ L M) (hS : ax_s σ S T) : ax_Ok σ sc (9, a, b, d) pc M T g p1 L1 S1 := by
  unfold ax_if at hs
  dsimp only at hs
  split at hs
  · rename_i x r
    obtain ⟨x', U, rfl, hx, hr⟩ := ax_sc hS
    obtain ⟨t, ht, e⟩ := Option.map_eq_some_iff.mp hs
    cases e
    obtain ⟨h1, -, h3⟩ := ax_cmp_ok hH ht hx (ax_vx (t := 0) (z := 0) (by decide))
    refine ⟨M, U, ?_, hL, hr⟩
    show jm_if (9, a, b, d) pc M (x' :: U) g = _
    unfold jm_if
    dsimp only
    dsimp only at h3
    rw [if_pos h1, h3]
  · cases hs
theorem ax_if2_ok (hH : ax_H bx σ sc) (hs : ax_if2 bx (10, a, b, d) pc L S = some (p1, L1, S1)) (hL : ax_l σ L M) (hS : ax_s σ S T) : ax_Ok σ sc (10, a, b, d) pc M T g p1 L1 S1 := by
  unfold ax_if2 at hs
  dsimp only at hs
  split at hs
  · rename_i y x r
    obtain ⟨y', U, rfl, hy, hS2⟩ := ax_sc hS
    obtain ⟨x', V, rfl, hx, hr⟩ := ax_sc hS2
    obtain ⟨t, ht, e⟩ := Option.map_eq_some_iff.mp hs
    cases e
    obtain ⟨h1, h2, h3⟩ := ax_cmp_ok hH ht hx hy
    refine ⟨M, V, ?_, hL, hr⟩
    show jm_if2 (10, a, b, d) pc M (y' :: x' :: V) g = _
    unfold jm_if2
    dsimp only
    rw [if_pos ⟨h2, h1⟩, h3]
  · cases hs
theorem ax_rd_ok {t : Nat} {z z' : Int} {v : jm_V} (h : ax_rd t z = some v) (hz : z = ax_U ∨ z' = z) : ax_v σ v (t, z') := by
  unfold ax_rd at h
  split at h
  · split at h
    · rename_i ht
      cases h
      exact ax_v19 ht
    · cases h
  · rename_i hu
    split at h
    · rename_i ht
      cases h
      rcases hz with hz | hz
      · exact absurd hz hu
      · rw [hz]; exact ax_vx ht
    · cases h
theorem ax_z_at {f g : List Int} {k : Nat} {z : Int} (h : ax_z f g) (hk : f[k]? = some z) : ∃ z', g[k]? = some z' ∧ (z = ax_U ∨ z' = z) := by
  rcases h.2 k with h2 | h2
  · rw [hk] at h2
    have hl : k < g.length := by rw [← h.1]; exact (List.getElem?_eq_some_iff.mp hk).1
    exact ⟨_, List.getElem?_eq_getElem hl, Or.inl (Option.some.inj h2)⟩
  · rw [hk] at h2
    exact ⟨z, h2, Or.inr rfl⟩
theorem ax_getf_ok (hs : ax_getf (13, a, b, d) pc L S h = some (p1, L1, S1)) (hL : ax_l σ L M) (hS : ax_s σ S T) (hh : ax_h h g) : ax_Ok σ sc (13, a, b, d) pc M T g p1 L1 S1 := by
  unfold ax_getf at hs
  dsimp only at hs
  split at hs
  · rename_i o r
    obtain ⟨o', U, rfl, ho, hr⟩ := ax_sc hS
    split at hs
    · rename_i h2
      have e := ax_ve ho (by omega)
      subst e
      split at hs
      · rename_i c hc
        obtain ⟨e, he, hce⟩ := ax_cell hh hc
        split at hs
        · rename_i hk
          obtain ⟨k1, k2⟩ := ax_c_k hce hk.2
          split at hs
          · rename_i z hz
            obtain ⟨z', hz', hzz⟩ := ax_z_at k2 hz
            obtain ⟨v, hv, e2⟩ := Option.map_eq_some_iff.mp hs
            cases e2
            refine ⟨M, _ :: U, ?_, hL, ax_rd_ok hv hzz, hr⟩
            show jm_getf (13, a, b, d) pc M (o' :: U) g = _
            unfold jm_getf
            dsimp only
            rw [if_pos h2, he]
            dsimp only
            rw [if_pos (k1.trans hk.1), hz']
          · cases hs
        · cases hs
      · cases hs
    · cases hs
  · cases hs
theorem ax_ald_ok (hs : ax_ald (15, a, b, d) pc L S h = some (p1, L1, S1)) (hL : ax_l σ L M) (hS : ax_s σ S T) (hh : ax_h h g) : ax_Ok σ sc (15, a, b, d) pc M T g p1 L1 S1 := by
  unfold ax_ald at hs
  dsimp only at hs
  split at hs
  · rename_i j o r
    obtain ⟨j', U, rfl, hj, hS2⟩ := ax_sc hS
    obtain ⟨o', V, rfl, ho, hr⟩ := ax_sc hS2
    split at hs
    · rename_i h2
      have e1 := ax_ve hj (by omega)
      have e2 := ax_ve ho (by omega)
      subst e1; subst e2
      split at hs
      · rename_i c hc
        obtain ⟨e, he, hce⟩ := ax_cell hh hc
        split at hs
        · rename_i hk
          obtain ⟨k1, k2⟩ := ax_c_k hce (by omega)
          split at hs
          · rename_i n hn
            obtain ⟨v, hv, e3⟩ := Option.map_eq_some_iff.mp hs
            cases e3
            have hlt := (jm_nl_in hn).2.2
            obtain ⟨z', hz', hzz⟩ := ax_z_at (z := c.2.getD n 0) k2 (by rw [List.getD_eq_getElem?_getD, List.getElem?_eq_getElem hlt]; rfl)
            refine ⟨M, _ :: V, ?_, hL, ax_rd_ok (z' := z') hv hzz, hr⟩
            show jm_ald (15, a, b, d) pc M (j' :: o' :: V) g = _
            unfold jm_ald
            dsimp only
            rw [if_pos h2, he]
            dsimp only
            rw [if_pos (by rw [k1]; exact hk), ← k2.1, hn]
            show some (pc + 1, M, (_, e.2.getD n 0) :: V, g) = _
            rw [List.getD_eq_getElem?_getD, hz']
            rfl
          · cases hs
        · cases hs
      · cases hs
    · cases hs
  · cases hs
theorem ax_tsw_ok (hH : ax_H bx σ sc) (hs : ax_tsw bx (20, a, b, d) L S = some (p1, L1, S1)) (hL : ax_l σ L M) (hS : ax_s σ S T) : ax_Ok σ sc (20, a, b, d) pc M T g p1 L1 S1 := by
  unfold ax_tsw at hs
  dsimp only at hs
  split at hs
  · rename_i x r
    obtain ⟨x', U, rfl, hx, hr⟩ := ax_sc hS
    split at hs
    · rename_i h0
      have e := ax_ve hx (by omega)
      subst e
      split at hs
      · rename_i hc
        cases hs
        refine ⟨M, U, ?_, hL, hr⟩
        show jm_tsw (20, a, _, d) M (x' :: U) g = _
        unfold jm_tsw
        dsimp only
        rw [if_pos h0, if_pos hc]
      · rename_i hc
        split at hs
        · rename_i t ht
          cases hs
          refine ⟨M, U, ?_, hL, hr⟩
          show jm_tsw (20, a, _, d) M (x' :: U) g = _
          unfold jm_tsw
          dsimp only
          rw [if_pos h0, if_neg hc, ht]
        · cases hs
    · split at hs
      · rename_i h19
        split at hs
        · rename_i hc
          cases hs
          have hb := ax_box_ok hH hx h19
          refine ⟨M, U, ?_, hL, hr⟩
          show jm_tsw (20, a, _, d) M (x' :: U) g = _
          unfold jm_tsw
          dsimp only
          rw [if_pos (ax_vu hx h19).1, if_pos (by omega)]
        · cases hs
      · cases hs
  · cases hs
theorem ax_spec_ok (hH : ax_H bx σ sc) (hs : ax_spec bx (22, a, b, d) pc L S = some (p1, L1, S1)) (hL : ax_l σ L M) (hS : ax_s σ S T) : ax_Ok σ sc (22, a, b, d) pc M T g p1 L1 S1 := by
  unfold ax_spec at hs
  dsimp only at hs
  split at hs
  · rename_i x r
    obtain ⟨x', U, rfl, hx, hr⟩ := ax_sc hS
    split at hs
    · rename_i hb
      subst hb
      split at hs
      · rename_i hx2
        cases hs
        have e := ax_ve hx (by rw [hx2]; decide)
        refine ⟨M, (0, 6) :: U, ?_, hL, ax_vx (by decide), hr⟩
        rw [e, hx2]
        show (if ((4, 2) : jm_V) = (4, 2) then some (pc + 1, M, (0, (sc.length : Int)) :: U, g) else none) = _
        rw [if_pos rfl, hH.2.1]
        rfl
      · cases hs
    · split at hs
      · rename_i hb
        subst hb
        split at hs
        · rename_i y r'
          obtain ⟨y', V, rfl, hy, hr'⟩ := ax_sc hr
          split at hs
          · rename_i hc
            obtain ⟨n, hn, e3⟩ := Option.map_eq_some_iff.mp hs
            cases e3
            have e1 := ax_ve hx (by omega)
            have e2 := ax_ve hy (by rw [hc.2]; decide)
            have hlt := (jm_nl_in hn).2.2
            refine ⟨M, (0, σ n) :: V, ?_, hL, ax_sym_ok hH (by omega), hr'⟩
            rw [e1, e2]
            show (if x.1 = 0 ∧ y = (4, 2) then (jm_ix x.2 sc.length).map (fun n => (pc + 1, M, (0, sc.getD n 0) :: V, g)) else none) = _
            rw [if_pos hc, hH.2.1, hn]
            show some (pc + 1, M, (0, sc.getD n 0) :: V, g) = _
            rw [hH.2.2.1 n hlt]
          · cases hs
        · cases hs
      · cases hs
  · cases hs
theorem ax_alen_ok (hs : ax_alen pc L S h = some (p1, L1, S1)) (hL : ax_l σ L M) (hS : ax_s σ S T) (hh : ax_h h g) : ax_Ok σ sc (25, a, b, d) pc M T g p1 L1 S1 := by
  unfold ax_alen at hs
  split at hs
  · rename_i o r
    obtain ⟨o', U, rfl, ho, hr⟩ := ax_sc hS
    split at hs
    · rename_i h2
      have e1 := ax_ve ho (by omega)
      subst e1
      split at hs
      · rename_i c hc
        obtain ⟨e, he, hce⟩ := ax_cell hh hc
        split at hs
        · rename_i hk
          cases hs
          obtain ⟨k1, k2⟩ := ax_c_k hce (by omega)
          refine ⟨M, _ :: U, ?_, hL, ax_vx (by decide), hr⟩
          show jm_alen pc M (o' :: U) g = _
          unfold jm_alen
          dsimp only
          rw [if_pos h2, he]
          dsimp only
          rw [if_pos (by rw [k1]; exact hk), k2.1]
        · cases hs
      · cases hs
    · cases hs
  · cases hs
theorem ax_mm_ok (hH : ax_H bx σ sc) (hs : ax_mm bx (26, a, b, d) pc L S = some (p1, L1, S1)) (hL : ax_l σ L M) (hS : ax_s σ S T) : ax_Ok σ sc (26, a, b, d) pc M T g p1 L1 S1 := by
  unfold ax_mm at hs
  dsimp only at hs
  split at hs
  · rename_i y x r
    obtain ⟨y', U, rfl, hy, hS2⟩ := ax_sc hS
    obtain ⟨x', V, rfl, hx, hr⟩ := ax_sc hS2
    split at hs
    · rename_i hcat
      have hcat' : jm_cat V ≤ 8 := by rw [← ax_scat hr]; exact hcat
      split at hs
      · rename_i hc
        cases hs
        have e1 := ax_ve hy (by omega)
        have e2 := ax_ve hx (by omega)
        subst e1; subst e2
        refine ⟨M, _ :: V, ?_, hL, ax_vx (by decide), hr⟩
        show jm_mm (26, a, b, d) pc M (y' :: x' :: V) g = _
        unfold jm_mm
        dsimp only
        rw [if_pos ⟨hc.1, hc.2, hcat'⟩]
      · split at hs
        · rename_i hc
          cases hs
          obtain ⟨c1, c2, c3, c4⟩ := hc
          have e1 := ax_ve hy (by omega)
          subst e1
          have hb := ax_box_ok hH hx c2
          have x0 := (ax_vu hx c2).1
          refine ⟨M, x' :: V, ?_, hL, hx, hr⟩
          show jm_mm (26, a, b, d) pc M (y' :: x' :: V) g = _
          unfold jm_mm
          dsimp only
          rw [if_pos ⟨c1, x0, hcat'⟩, if_neg c3, if_neg (by omega)]
          obtain ⟨xt, xz⟩ := x'
          dsimp only at x0
          subst x0
          rfl
        · cases hs
    · cases hs
  · cases hs
theorem ax_pur_ok {i : jm_I} (hH : ax_H bx σ sc) (hs : ax_pur bx i pc L S h = some (p1, L1, S1)) (hL : ax_l σ L M) (hS : ax_s σ S T) (hh : ax_h h g) : ax_Ok σ sc i pc M T g p1 L1 S1 := by
  obtain ⟨op, a, b, d⟩ := i
  unfold ax_pur at hs
  dsimp only at hs
  split at hs
  · cases hs; exact ⟨M, _, rfl, hL, ax_vx (by decide), hS⟩
  · cases hs; exact ⟨M, _, rfl, hL, ax_vx (by decide), hS⟩
  · exact ax_load_ok hs hL hS
  · exact ax_store_ok hs hL hS
  · exact ax_inc_ok hs hL hS
  · exact ax_arith_ok hH hs hL hS
  · exact ax_conv_ok hs hL hS
  · exact ax_stack_ok hs hL hS
  · exact ax_if_ok hH hs hL hS
  · exact ax_if2_ok hH hs hL hS
  · cases hs; exact ⟨M, _, rfl, hL, hS⟩
  · exact ax_getf_ok hs hL hS hh
  · exact ax_ald_ok hs hL hS hh
  · exact ax_tsw_ok hH hs hL hS
  · exact ax_spec_ok hH hs hL hS
  · exact ax_alen_ok hs hL hS hh
  · exact ax_mm_ok hH hs hL hS
  · cases hs
theorem ax_putf_ok {h1 : jm_H} (hs : ax_putf (14, a, b, d) pc L S h = some (p1, L1, S1, h1)) (hL : ax_l σ L M) (hS : ax_s σ S T) (hh : ax_h h g) : ∃ (M1 : jm_L) (T1 : List jm_V) (g1 : jm_H), jm_stp sc (14, a, b, d) pc M T g = some (p1, M1, T1, g1) ∧ ax_l σ L1 M1 ∧ ax_s σ S1 T1 ∧ ax_h h1 g1 := by
  unfold ax_putf at hs
  dsimp only at hs
  split at hs
  · rename_i v o r
    obtain ⟨v', U, rfl, hv, hS2⟩ := ax_sc hS
    obtain ⟨o', V, rfl, ho, hr⟩ := ax_sc hS2
    split at hs
    · rename_i hc
      obtain ⟨c1, c2, c3⟩ := hc
      have e1 := ax_ve ho (by omega)
      subst e1
      split at hs
      · rename_i c hcl
        obtain ⟨e, he, hce⟩ := ax_cell hh hcl
        split at hs
        · rename_i hk
          cases hs
          obtain ⟨k1, k2⟩ := ax_c_k hce (by omega)
          have hfok : jm_fok a v' = true := by
            rcases c3 with ⟨c3, c4⟩ | ⟨c3, c4⟩
            · unfold jm_fok
              exact decide_eq_true (Or.inl ⟨c4, (ax_vu hv c3).1⟩)
            · rw [ax_ve hv c3]; exact c4
          refine ⟨M, V, _, ?_, hL, hr, ax_h_set (e := (e.1, e.2.set d v'.2)) hh ?_⟩
          · show jm_putf (14, a, b, d) pc M (v' :: o' :: V) g = _
            unfold jm_putf
            dsimp only
            rw [if_pos ⟨c1, hfok⟩, he]
            dsimp only
            rw [if_pos ⟨k1.trans hk.1, by rw [← k2.1]; exact hk.2⟩]
          · refine Or.inr ⟨by show c.1 < 1000; omega, k1, ?_⟩
            show ax_z (c.2.set d (if 19 ≤ v.1 then ax_U else v.2)) (e.2.set d v'.2)
            split
            · exact ax_z_setU k2
            · rename_i h19
              rw [ax_ve hv (by omega)]
              exact ax_z_set k2
        · cases hs
      · cases hs
    · cases hs
  · cases hs
theorem ax_ast_ok {h1 : jm_H} (hs : ax_ast (16, a, b, d) pc L S h = some (p1, L1, S1, h1)) (hL : ax_l σ L M) (hS : ax_s σ S T) (hh : ax_h h g) : ∃ (M1 : jm_L) (T1 : List jm_V) (g1 : jm_H), jm_stp sc (16, a, b, d) pc M T g = some (p1, M1, T1, g1) ∧ ax_l σ L1 M1 ∧ ax_s σ S1 T1 ∧ ax_h h1 g1 := by
  unfold ax_ast at hs
  dsimp only at hs
  split at hs
  · rename_i v j o r
    obtain ⟨v', U, rfl, hv, hS2⟩ := ax_sc hS
    obtain ⟨j', V, rfl, hj, hS3⟩ := ax_sc hS2
    obtain ⟨o', Wt, rfl, ho, hr⟩ := ax_sc hS3
    split at hs
    · rename_i hc
      have e1 := ax_ve hj (by omega)
      have e2 := ax_ve ho (by omega)
      subst e1; subst e2
      split at hs
      · rename_i c hcl
        obtain ⟨e, he, hce⟩ := ax_cell hh hcl
        split at hs
        · rename_i n hn
          have key : ∀ z y, c.1 < 1000 → (c.1 = e.1 → (if b = 0 ∧ e.1 = 0 ∧ v'.1 = 0 then some (pc + 1, M, Wt, (g.1.set o'.2.toNat (e.1, e.2.set n v'.2), g.2))
              else if b = 1 ∧ e.1 = 1 ∧ v'.1 = 0 then some (pc + 1, M, Wt, (g.1.set o'.2.toNat (e.1, e.2.set n (jm_b v'.2)), g.2))
              else if b = 1 ∧ e.1 = 3 ∧ v'.1 = 0 then some (pc + 1, M, Wt, (g.1.set o'.2.toNat (e.1, e.2.set n (jm_z v'.2)), g.2))
              else if b = 2 ∧ e.1 = 2 ∧ v'.1 = 1 then some (pc + 1, M, Wt, (g.1.set o'.2.toNat (e.1, e.2.set n v'.2), g.2))
              else if b = 3 ∧ e.1 = 4 ∧ v'.1 = 2 then (match jm_cell g v'.2 with
                | some c' => if c'.1 = 10 + d then some (pc + 1, M, Wt, (g.1.set o'.2.toNat (e.1, e.2.set n v'.2), g.2)) else none
                | none => none)
              else none) = some (pc + 1, M, Wt, (g.1.set o'.2.toNat (e.1, e.2.set n z), g.2))) → (y = ax_U ∨ y = z) →
              ∃ (M1 : jm_L) (T1 : List jm_V) (g1 : jm_H), jm_stp sc (16, a, b, d) pc M (v' :: j' :: o' :: Wt) g = some (pc + 1, M1, T1, g1) ∧ ax_l σ L M1 ∧ ax_s σ r T1 ∧ ax_h (h.1.set o'.2.toNat (c.1, c.2.set n y), h.2) g1 := by
            intro z y hk hz hy
            obtain ⟨k1, k2⟩ := ax_c_k hce hk
            refine ⟨M, Wt, (g.1.set o'.2.toNat (e.1, e.2.set n z), g.2), ?_, hL, hr, ax_h_set hh (Or.inr ⟨hk, k1, ?_⟩)⟩
            · show jm_ast (16, a, b, d) pc M (v' :: j' :: o' :: Wt) g = _
              unfold jm_ast
              dsimp only
              rw [if_pos hc, he]
              dsimp only
              rw [← k2.1, hn]
              exact hz k1.symm
            · show ax_z (c.2.set n y) (e.2.set n z)
              rcases hy with rfl | rfl
              · exact ax_z_setU k2
              · exact ax_z_set k2
          split at hs
          · rename_i q
            cases hs
            have ev := ax_ve hv (by omega)
            refine key v.2 _ (by omega) (fun hce => ?_) (Or.inr rfl)
            rw [ev, if_pos (by omega)]
          · split at hs
            · rename_i q
              cases hs
              have ev := ax_ve hv (by omega)
              refine key (jm_b v.2) _ (by omega) (fun hce => ?_) (Or.inr rfl)
              rw [ev, if_neg (by omega), if_pos (by omega)]
            · split at hs
              · rename_i q
                cases hs
                have ev := ax_ve hv (by omega)
                refine key (jm_z v.2) _ (by omega) (fun hce => ?_) (Or.inr rfl)
                rw [ev, if_neg (by omega), if_neg (by omega), if_pos (by omega)]
              · split at hs
                · rename_i q
                  cases hs
                  have ev := ax_ve hv (by omega)
                  refine key v.2 _ (by omega) (fun hce => ?_) (Or.inr rfl)
                  rw [ev, if_neg (by omega), if_neg (by omega), if_neg (by omega), if_pos (by omega)]
                · split at hs
                  · rename_i q
                    cases hs
                    obtain ⟨q1, q2⟩ := q
                    have v0 := (ax_vu hv q1).1
                    rcases q2 with ⟨q2, q3⟩ | ⟨q2, q3⟩
                    · refine key v'.2 _ (by omega) (fun hce => ?_) (Or.inl rfl)
                      rw [if_pos (by omega)]
                    · refine key (jm_b v'.2) _ (by omega) (fun hce => ?_) (Or.inl rfl)
                      rw [if_neg (by omega), if_pos (by omega)]
                  · cases hs
        · cases hs
      · cases hs
    · cases hs
  · cases hs
theorem ax_acpy_ok {h1 : jm_H} (hs : jm_acpy pc L S h = some (p1, L1, S1, h1)) (hL : ax_l σ L M) (hS : ax_s σ S T) (hh : ax_h h g) : ∃ (M1 : jm_L) (T1 : List jm_V) (g1 : jm_H), jm_stp sc (24, a, b, d) pc M T g = some (p1, M1, T1, g1) ∧ ax_l σ L1 M1 ∧ ax_s σ S1 T1 ∧ ax_h h1 g1 := by
  unfold jm_acpy at hs
  split at hs
  · rename_i n dp o sp q r
    obtain ⟨n', U1, rfl, hn, hS2⟩ := ax_sc hS
    obtain ⟨dp', U2, rfl, hdp, hS3⟩ := ax_sc hS2
    obtain ⟨o', U3, rfl, ho, hS4⟩ := ax_sc hS3
    obtain ⟨sp', U4, rfl, hsp, hS5⟩ := ax_sc hS4
    obtain ⟨q', U5, rfl, hq, hr⟩ := ax_sc hS5
    split at hs
    · rename_i hc
      have e1 := ax_ve hn (by omega)
      have e2 := ax_ve hdp (by omega)
      have e3 := ax_ve ho (by omega)
      have e4 := ax_ve hsp (by omega)
      have e5 := ax_ve hq (by omega)
      subst e1; subst e2; subst e3; subst e4; subst e5
      split at hs
      · rename_i c c' hc1 hc2
        obtain ⟨e, he, hce⟩ := ax_cell hh hc1
        obtain ⟨e', he', hce'⟩ := ax_cell hh hc2
        split at hs
        · rename_i hk
          cases hs
          obtain ⟨k1, k2⟩ := ax_c_k hce (by omega)
          obtain ⟨k3, k4⟩ := ax_c_k hce' (by omega)
          refine ⟨M, U5, _, ?_, hL, hr, ax_h_set (e := (e'.1, jm_cpy e.2 e'.2 (jm_n sp'.2).toNat (jm_n dp'.2).toNat (jm_n n'.2).toNat)) hh (Or.inr ⟨?_, k3, ax_z_cpy k2 k4⟩)⟩
          · show jm_acpy pc M (n' :: dp' :: o' :: sp' :: q' :: U5) g = _
            unfold jm_acpy
            dsimp only
            rw [if_pos (by rw [← ax_scat hr]; exact hc), he, he']
            dsimp only
            rw [if_pos (by rw [k1, k3, ← k2.1, ← k4.1]; exact hk)]
          · show c'.1 < 1000
            omega
        · cases hs
      · cases hs
    · cases hs
  · cases hs
theorem ax_mod_ok {i : jm_I} {h1 : jm_H} (hs : ax_mod i pc L S h = some (p1, L1, S1, h1)) (hL : ax_l σ L M) (hS : ax_s σ S T) (hh : ax_h h g) : ∃ (M1 : jm_L) (T1 : List jm_V) (g1 : jm_H), jm_stp sc i pc M T g = some (p1, M1, T1, g1) ∧ ax_l σ L1 M1 ∧ ax_s σ S1 T1 ∧ ax_h h1 g1 := by
  obtain ⟨op, a, b, d⟩ := i
  unfold ax_mod at hs
  dsimp only at hs
  split at hs
  · exact ax_putf_ok hs hL hS hh
  · exact ax_ast_ok hs hL hS hh
  · exact ax_acpy_ok hs hL hS hh
  · cases hs
theorem ax_ret_ok {i : jm_I} {r : Option jm_V} (hs : ax_ret i S = some r) (hS : ax_s σ S T) : ∃ q, jm_ret i T g = some (q, g) ∧ ax_r σ r q ∧ ¬ r = some (9, 0) := by
  obtain ⟨op, a, b, d⟩ := i
  unfold ax_ret at hs
  dsimp only at hs
  split at hs
  · split at hs
    · rename_i hb
      subst hb
      cases hs
      rw [ax_sn hS]
      exact ⟨none, rfl, trivial, fun q => nomatch q⟩
    · cases hs
  · rename_i v r'
    obtain ⟨w, U, rfl, hv, hr⟩ := ax_sc hS
    split at hs
    · rename_i hc
      obtain ⟨c1, c2, c3⟩ := hc
      subst c1; subst c2
      cases hs
      rw [ax_sn hr]
      refine ⟨some w, ?_, ⟨hv, trivial⟩, fun q => ?_⟩
      · show (if w.1 = 0 ∧ ((d = 0) ∨ (d = 1 ∧ (jm_n w.2 = 0 ∨ jm_n w.2 = 1)) ∨ (d = 2 ∧ 0 ≤ jm_n w.2 ∧ jm_n w.2 < 65536) ∨ (d = 3 ∧ jm_n w.2 = 0)) then some (some w, g) else none) = _
        rcases c3 with ⟨c3, c4⟩ | ⟨c3, c4⟩
        · rw [ax_ve hv (by omega), if_pos ⟨c3, c4⟩]
        · rw [if_pos ⟨(ax_vu hv c3).1, Or.inl c4⟩]
      · have e := Option.some.inj q
        rw [e] at c3
        rcases c3 with ⟨c3, -⟩ | ⟨c3, -⟩
        · cases c3
        · exact absurd c3 (by decide)
    · cases hs
end
