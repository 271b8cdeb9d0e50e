theorem g_res {σ : Nat → Int} {N : Int} (h : σ 1 = N) {q : Option jm_V} (hq : ax_r σ (some (0, N)) q) : ax_r σ (some (21, 0)) q := by
  cases q with
  | none => exact hq.elim
  | some w =>
    have e : w = (0, N) := ax_ve (v := (0, N)) hq.1 (show (0 : Nat) < 19 by decide)
    refine ⟨?_, trivial⟩
    rw [e]
    exact Or.inr ⟨show 19 ≤ 21 by decide, rfl, Or.inr (show N = σ 1 from h.symm)⟩
section
variable {σ : Nat → Int} {sc : List Int} {N : Nat}
theorem g_tickC (h0 : ax_H0 σ sc) (hN : 1 ≤ N) (hN2 : N ≤ 60) (hσ : σ 1 = (N : Int)) : ax_M σ sc 99 89 0 [(0, (2, 0)), (1, (21, 0))] [] (g_A0, 0) (some (21, 0)) (g_AT, 0) := by
  refine ax_M_seg g_tk1 (ax_H_b1 h0 (by omega) (by omega)) ?_
  have h := ax_loop (N := N) (Lf := g_LT) (Wf := fun i => (g_WT (i : Int), 0)) (rf := fun _ => some (21, 0)) (bs := fun i => g_b1 (i + 1) 60) (be := fun i => g_b1 i i) hN2 g_tk2 g_tk3 (fun i hi => ax_H_b1 h0 (by omega) (by omega)) (ax_H_b1 h0 (by omega) (by omega)) N (Nat.le_refl _)
  rw [Nat.sub_self] at h
  exact h
theorem g_drawC (h0 : ax_H0 σ sc) (hN : 1 ≤ N) (hN2 : N ≤ 60) (hσ : σ 1 = (N : Int)) : ax_M σ sc 99 126 0 [(0, (2, 0)), (1, (21, 0)), (2, (22, 0))] [] (g_A0, 0) (some (21, 0)) (g_AT, 0) := by
  refine ax_M_seg g_D1 (ax_H_b1 h0 (by omega) (by omega)) ?_
  have h := ax_loop (N := N) (Lf := g_LD) (Wf := fun i => (g_WD (i : Int), 0)) (rf := fun _ => some (21, 0)) (bs := fun i => g_b1 (i + 1) 60) (be := fun i => g_b1 i i) hN2 g_D2 g_D3 (fun i hi => ax_H_b1 h0 (by omega) (by omega)) (ax_H_b1 h0 (by omega) (by omega)) N (Nat.le_refl _)
  rw [Nat.sub_self] at h
  exact h
theorem g_tickM (h0 : ax_H0 σ sc) (hN : 1 ≤ N) (hN2 : N ≤ 60) (hσ : σ 1 = (N : Int)) : ax_M σ sc 99 225 0 [(0, (2, 192)), (1, (21, 0))] [] (g_AT, 0) (some (21, 0)) (g_AU, 0) := by
  refine ax_M_seg g_G0 (ax_H_b1 h0 (by omega) (by omega)) ?_
  have hg : ax_M σ sc 98 226 0 [(0, (2, 192)), (1, (21, 0))] [] (g_WG ((0 : Nat) : Int), 0) (some (21, 0)) (g_AU, 0) := by
    refine ax_M_res (r1 := some (0, (N : Int))) (fun q hq => g_res hσ hq) ?_
    refine ax_M_seg g_G1 (ax_H_b1 h0 (by omega) (by omega)) ?_
    have h := ax_loop (N := N) (Lf := g_LG) (Wf := fun i => (g_WG (i : Int), 0)) (rf := fun i => some (0, (i : Int))) (bs := fun i => g_b1 (i + 1) 60) (be := fun i => g_b1 i i) hN2 g_G2 g_G3 (fun i hi => ax_H_b1 h0 (by omega) (by omega)) (ax_H_b1 h0 (by omega) (by omega)) N (Nat.le_refl _)
    rw [Nat.sub_self] at h
    exact h
  refine ax_M_call (i := (30, 22, 226, 2)) (r1 := some (21, 0)) (k1 := (g_AU, 0)) g_G4 (by decide) hg ?_
  exact ax_M_fin g_G5 (ax_H_b1 h0 (lo := 1) (hi := 60) (by omega) (by omega))
theorem g_drawM (h0 : ax_H0 σ sc) (hN : 1 ≤ N) (hN2 : N ≤ 60) (hσ : σ 1 = (N : Int)) : ax_M σ sc 99 255 0 [(0, (2, 192)), (1, (21, 0)), (2, (22, 0))] [] (g_AT, 0) (some (21, 0)) (g_AU, 0) := by
  refine ax_M_seg g_E0 (ax_H_b1 h0 (by omega) (by omega)) ?_
  have hg : ax_M σ sc 98 256 0 [(0, (2, 192)), (1, (21, 0)), (2, (22, 0))] [] (g_WG ((0 : Nat) : Int), 0) (some (21, 0)) (g_AU, 0) := by
    refine ax_M_res (r1 := some (0, (N : Int))) (fun q hq => g_res hσ hq) ?_
    refine ax_M_seg g_E1 (ax_H_b1 h0 (by omega) (by omega)) ?_
    have h := ax_loop (N := N) (Lf := g_LE) (Wf := fun i => (g_WE (i : Int), 0)) (rf := fun i => some (0, (i : Int))) (bs := fun i => g_b1 (i + 1) 60) (be := fun i => g_b1 i i) hN2 g_E2 g_E3 (fun i hi => ax_H_b1 h0 (by omega) (by omega)) (ax_H_b1 h0 (by omega) (by omega)) N (Nat.le_refl _)
    rw [Nat.sub_self] at h
    exact h
  refine ax_M_call (i := (30, 22, 256, 3)) (r1 := some (21, 0)) (k1 := (g_AU, 0)) g_E4 (by decide) hg ?_
  exact ax_M_fin g_E5 (ax_H_b1 h0 (lo := 1) (hi := 60) (by omega) (by omega))
theorem g_law13 (h0 : ax_H0 σ sc) (h6 : σ 6 = ((13 : Nat) : Int)) (hN : 1 ≤ N) (hN2 : N ≤ 60) (hσ : σ 1 = (N : Int)) : ax_M σ sc 100 277 20 g_L0 [] (g_A0, 0) (some (0, 1)) (g_AU, 0) := by
  have hH : ax_H (g_bxs 13 (1, 60)) σ sc := ax_H_bxs h0 (show (1 : Int) ≤ σ 1 by omega) (show σ 1 ≤ (60 : Int) by omega) h6
  refine ax_M_seg g_Q1 hH ?_
  refine ax_M_call (i := (30, 10, 89, 2)) (r1 := some (21, 0)) (k1 := (g_AT, 0)) g_Q2 (by decide) (g_tickC h0 hN hN2 hσ) ?_
  refine ax_M_seg g_Q3 hH ?_
  refine ax_M_call (i := (30, 22, 225, 2)) (r1 := some (21, 0)) (k1 := (g_AU, 0)) g_Q4 (by decide) (g_tickM h0 hN hN2 hσ) ?_
  exact ax_M_fin g_Q5 hH
theorem g_law29 (h0 : ax_H0 σ sc) (h6 : σ 6 = ((29 : Nat) : Int)) (hN : 1 ≤ N) (hN2 : N ≤ 60) (hσ : σ 1 = (N : Int)) : ax_M σ sc 100 277 20 g_L0 [] (g_A0, 0) (some (0, 1)) (g_AU, 0) := by
  have hH : ax_H (g_bxs 29 (1, 60)) σ sc := ax_H_bxs h0 (show (1 : Int) ≤ σ 1 by omega) (show σ 1 ≤ (60 : Int) by omega) h6
  refine ax_M_seg g_Q6 hH ?_
  refine ax_M_call (i := (30, 10, 126, 3)) (r1 := some (21, 0)) (k1 := (g_AT, 0)) g_Q7 (by decide) (g_drawC h0 hN hN2 hσ) ?_
  refine ax_M_seg g_Q8 hH ?_
  refine ax_M_call (i := (30, 22, 255, 3)) (r1 := some (21, 0)) (k1 := (g_AU, 0)) g_Q9 (by decide) (g_drawM h0 hN hN2 hσ) ?_
  exact ax_M_fin g_Q10 hH
theorem ax_loop2 {bx : ax_B} {jn : List (Nat × Nat × Nat)} {n stop d m N : Nat} {Lf : Nat → jm_L} {W0 k : jm_H} {r : Option jm_V} (hs : ∀ i, i < N → ax_seg bx jn n stop d m stop (Lf i) [] W0 (Lf (i + 1)) [] W0 = true) (hH : ax_H bx σ sc) (hM : ax_M σ sc d m stop (Lf N) [] W0 r k) : ∀ j, j ≤ N → ax_M σ sc d m stop (Lf (N - j)) [] W0 r k
  | 0, _ => hM
  | j + 1, hj => by
    refine ax_M_seg (hs (N - (j + 1)) (by omega)) hH ?_
    rw [show N - (j + 1) + 1 = N - j by omega]
    exact ax_loop2 hs hH hM j (by omega)
theorem ax_H_nil (h0 : ax_H0 σ sc) : ax_H [] σ sc := ⟨fun _ => ax_rng _, h0⟩
theorem g_rideM (h0 : ax_H0 σ sc) : ax_M σ sc 99 174 0 [(0, (2, 192))] [] (g_AT, 0) (some (0, 0)) (g_AU, 0) := by
  refine ax_M_seg g_R2 (ax_H_nil h0) ?_
  have h := ax_loop2 (Lf := g_LR) (N := 361) (fun i hi => g_cr_of hi) (ax_H_nil h0) (ax_M_fin g_R3 (ax_H_nil h0)) 361 (Nat.le_refl _)
  rw [Nat.sub_self] at h
  exact h
theorem g_imgM0 (h0 : ax_H0 σ sc) : ax_M σ sc 99 274 0 [(0, (2, 192)), (1, (0, 0))] [] (g_AT, 0) (some (0, 1)) (g_AU, 0) := by
  refine ax_M_seg g_I20 (ax_H_nil h0) ?_
  have h := ax_loop2 (Lf := g_LI 0) (N := 361) (fun i hi => g_ci0_of hi) (ax_H_nil h0) (ax_M_fin g_I30 (ax_H_nil h0)) 361 (Nat.le_refl _)
  rw [Nat.sub_self] at h
  exact h
theorem g_imgM1 (h0 : ax_H0 σ sc) : ax_M σ sc 99 274 0 [(0, (2, 192)), (1, (0, 1))] [] (g_AT, 0) (some (0, 1)) (g_AU, 0) := by
  refine ax_M_seg g_I21 (ax_H_nil h0) ?_
  have h := ax_loop2 (Lf := g_LI 1) (N := 361) (fun i hi => g_ci1_of hi) (ax_H_nil h0) (ax_M_fin g_I31 (ax_H_nil h0)) 361 (Nat.le_refl _)
  rw [Nat.sub_self] at h
  exact h
theorem g_law2 (h0 : ax_H0 σ sc) (h6 : σ 6 = ((2 : Nat) : Int)) : ax_M σ sc 100 277 20 g_L0 [] (g_A0, 0) (some (0, 1)) (g_AU, 0) := by
  have hr := ax_rng (σ 1)
  rw [h0.2.2.1 1 (by decide)] at hr
  have hH : ax_H (g_bxs 2 ax_top) σ sc := ax_H_bxs h0 hr.1 hr.2 h6
  refine ax_M_seg g_U1 hH ?_
  refine ax_M_call (i := (30, 10, 24, 1)) (r1 := some (0, 0)) (k1 := (g_AT, 0)) g_U2 (by decide) (ax_M_fin g_R1 (ax_H_nil h0)) ?_
  refine ax_M_seg g_U3 hH ?_
  refine ax_M_call (i := (30, 22, 174, 1)) (r1 := some (0, 0)) (k1 := (g_AU, 0)) g_U4 (by decide) (g_rideM h0) ?_
  exact ax_M_fin g_U5 hH
theorem g_law35_0 (h0 : ax_H0 σ sc) (h6 : σ 6 = ((35 : Nat) : Int)) (h1 : σ 1 = 0) : ax_M σ sc 100 277 20 g_L0 [] (g_A0, 0) (some (0, 1)) (g_AU, 0) := by
  have hH : ax_H (g_bxs 35 (0, 0)) σ sc := ax_H_bxs h0 (show (0 : Int) ≤ σ 1 by omega) (show σ 1 ≤ (0 : Int) by omega) h6
  refine ax_M_seg g_V10 hH ?_
  refine ax_M_call (i := (30, 10, 156, 2)) (r1 := some (0, 1)) (k1 := (g_AT, 0)) g_V20 (by decide) (ax_M_fin g_I10 (ax_H_nil h0)) ?_
  refine ax_M_seg g_V30 hH ?_
  refine ax_M_call (i := (30, 22, 274, 2)) (r1 := some (0, 1)) (k1 := (g_AU, 0)) g_V40 (by decide) (g_imgM0 h0) ?_
  exact ax_M_fin g_V50 hH
theorem g_law35_1 (h0 : ax_H0 σ sc) (h6 : σ 6 = ((35 : Nat) : Int)) (h1 : σ 1 = 1) : ax_M σ sc 100 277 20 g_L0 [] (g_A0, 0) (some (0, 1)) (g_AU, 0) := by
  have hH : ax_H (g_bxs 35 (1, 1)) σ sc := ax_H_bxs h0 (show (1 : Int) ≤ σ 1 by omega) (show σ 1 ≤ (1 : Int) by omega) h6
  refine ax_M_seg g_V11 hH ?_
  refine ax_M_call (i := (30, 10, 156, 2)) (r1 := some (0, 1)) (k1 := (g_AT, 0)) g_V21 (by decide) (ax_M_fin g_I11 (ax_H_nil h0)) ?_
  refine ax_M_seg g_V31 hH ?_
  refine ax_M_call (i := (30, 22, 274, 2)) (r1 := some (0, 1)) (k1 := (g_AU, 0)) g_V41 (by decide) (g_imgM1 h0) ?_
  exact ax_M_fin g_V51 hH
theorem g_six (h0 : ax_H0 σ sc) : ∃ k, k ≤ 1 ∧ ax_M σ sc 100 277 20 g_L0 [] (g_A0, 0) (some (0, 1)) (g_AU, k) := by
  obtain ⟨c, hlt, hc⟩ : ∃ c : Nat, c < 64 ∧ σ 6 = (c : Int) := by
    have h63 := h0.2.2.2
    obtain ⟨j, hj, e⟩ := pk_andE (Int32.ofInt (σ 0)) (m := Int32.ofInt 63) 6 (by decide)
    refine ⟨j, hj, ?_⟩
    have h2 : some (Int32.ofInt (σ 0) &&& Int32.ofInt 63).toInt = some (σ 6) := h63
    rw [e, nI_toInt (by omega)] at h2
    exact (Option.some.inj h2).symm
  have hr := ax_rng (σ 1)
  rw [h0.2.2.1 1 (by decide)] at hr
  obtain ⟨q, hq, h1, h2⟩ := g_cov_ok (g_bx c) (-2147483648) (σ 1) (List.all_eq_true.mp g_cov_t c (List.mem_range.mpr hlt)) hr.1 hr.2
  have he := List.all_eq_true.mp (show (g_bx c).all _ = true from g_ev_of hlt) q hq
  rcases Bool.or_eq_true_iff.mp he with he | he
  · refine ⟨0, by decide, ?_⟩
    have he2 : (((decide (c = 13) || decide (c = 29)) && decide (q = (1, 60))) || (decide (c = 2) || (decide (c = 35) && (decide (q = (0, 0)) || decide (q = (1, 1)))))) = true := he
    simp only [Bool.or_eq_true, Bool.and_eq_true, decide_eq_true_eq] at he2
    rcases he2 with ⟨e1, e2⟩ | e1 | ⟨e1, e2⟩
    · rw [e2] at h1 h2
      dsimp only at h1 h2
      have hσ : σ 1 = ((σ 1).toNat : Int) := by omega
      rcases e1 with e1 | e1
      · rw [e1] at hc
        exact g_law13 h0 hc (N := (σ 1).toNat) (by omega) (by omega) hσ
      · rw [e1] at hc
        exact g_law29 h0 hc (N := (σ 1).toNat) (by omega) (by omega) hσ
    · rw [e1] at hc
      exact g_law2 h0 hc
    · rw [e1] at hc
      rcases e2 with e2 | e2
      · rw [e2] at h1 h2
        dsimp only at h1 h2
        exact g_law35_0 h0 hc (by omega)
      · rw [e2] at h1 h2
        dsimp only at h1 h2
        exact g_law35_1 h0 hc (by omega)
  · refine ⟨g_thr c, ?_, ax_M_fin he (ax_H_bxs h0 h1 h2 hc)⟩
    unfold g_thr
    split <;> omega
end
