/-! the lines of a RIDE: seat, rider -/
theorem tak_l : ∀ (n : Nat) (φ : hf_F) (l1 l2 l3 : Int), 8 - l3 < n → 0 ≤ l3 → l3 ≤ 8 → φ 32 1 ≤ 8 →
    (F_RideText_isTaken_182_l2 n φ l1 l2 l3 = 0 ∧ ∀ j : Nat, l3 ≤ (j : Int) → (j : Int) < φ 32 1 → ¬ (φ 36 j = l1 ∧ jm_n (φ 44 j) = l2)) ∨
    (F_RideText_isTaken_182_l2 n φ l1 l2 l3 = 1 ∧ ∃ j : Nat, l3 ≤ (j : Int) ∧ (j : Int) < φ 32 1 ∧ φ 36 j = l1 ∧ jm_n (φ 44 j) = l2) := by
  intro n
  induction n with
  | zero => intro φ l1 l2 l3 h1 h2 h3; omega
  | succ n ih =>
    intro φ l1 l2 l3 h1 h2 h3 h4
    rw [F_RideText_isTaken_182_l2_s]
    by_cases c1 : φ 32 1 ≤ l3
    · rw [if_pos c1]
      exact Or.inl ⟨rfl, fun j q1 q2 => by omega⟩
    · rw [if_neg c1]
      have hn : (F_RideText_isTaken_182_l2 n φ l1 l2 (l3 + 1) = 0 ∧ ∀ j : Nat, l3 + 1 ≤ (j : Int) → (j : Int) < φ 32 1 → ¬ (φ 36 j = l1 ∧ jm_n (φ 44 j) = l2)) ∨
          (F_RideText_isTaken_182_l2 n φ l1 l2 (l3 + 1) = 1 ∧ ∃ j : Nat, l3 + 1 ≤ (j : Int) ∧ (j : Int) < φ 32 1 ∧ φ 36 j = l1 ∧ jm_n (φ 44 j) = l2) := ih φ l1 l2 (l3 + 1) (by omega) (by omega) (by omega) h4
      have step : ¬ (φ 36 l3.toNat = l1 ∧ jm_n (φ 44 l3.toNat) = l2) → (F_RideText_isTaken_182_l2 n φ l1 l2 (l3 + 1) = 0 ∧ ∀ j : Nat, l3 ≤ (j : Int) → (j : Int) < φ 32 1 → ¬ (φ 36 j = l1 ∧ jm_n (φ 44 j) = l2)) ∨
          (F_RideText_isTaken_182_l2 n φ l1 l2 (l3 + 1) = 1 ∧ ∃ j : Nat, l3 ≤ (j : Int) ∧ (j : Int) < φ 32 1 ∧ φ 36 j = l1 ∧ jm_n (φ 44 j) = l2) := by
        intro hc
        rcases hn with ⟨i1, i2⟩ | ⟨i1, j, i2, i3, i4, i5⟩
        · refine Or.inl ⟨i1, fun j q1 q2 => ?_⟩
          by_cases hj : (j : Int) = l3
          · rw [show j = l3.toNat by omega]; exact hc
          · exact i2 j (by omega) q2
        · exact Or.inr ⟨i1, j, by omega, i3, i4, i5⟩
      by_cases c2 : φ 36 l3.toNat = l1
      · rw [if_neg (fun q => q c2)]
        by_cases c3 : jm_n (φ 44 l3.toNat) = l2
        · rw [if_neg (fun q => q c3)]
          exact Or.inr ⟨rfl, l3.toNat, by omega, by omega, c2, c3⟩
        · rw [if_pos c3]
          exact step (fun q => c3 q.2)
      · rw [if_pos c2]
        exact step (fun q => c2 q.1)
theorem mseat_l : ∀ (n : Nat) (χ : hf_F) (l1 l2 l3 : Int), 8 - l3 < n → 0 ≤ l3 → l3 ≤ 8 → l1 ≤ 8 →
    (F_RideLawsModel_readSeat_192_l93 n χ l1 l2 l3 = (1, hf_up (F_RideLawsModel_next_192 (hf_up (hf_up χ 195 (11 + l1).toNat l2) 195 (19 + l1).toNat (χ 192 14))) 195 1 (F_RideLawsModel_next_192 (hf_up (hf_up χ 195 (11 + l1).toNat l2) 195 (19 + l1).toNat (χ 192 14)) 195 1 + 1)) ∧
      ∀ j : Nat, l3 ≤ (j : Int) → (j : Int) < l1 → ¬ (χ 195 (11 + j) = l2 ∧ χ 195 (19 + j) = χ 192 14)) ∨
    (F_RideLawsModel_readSeat_192_l93 n χ l1 l2 l3 = F_RideLawsModel_bad_192 χ 3 ∧ ∃ j : Nat, l3 ≤ (j : Int) ∧ (j : Int) < l1 ∧ χ 195 (11 + j) = l2 ∧ χ 195 (19 + j) = χ 192 14) := by
  intro n
  induction n with
  | zero => intro χ l1 l2 l3 h1 h2 h3; omega
  | succ n ih =>
    intro χ l1 l2 l3 h1 h2 h3 h4
    rw [F_RideLawsModel_readSeat_192_l93_s]
    by_cases c1 : l1 ≤ l3
    · rw [if_pos c1]
      exact Or.inl ⟨rfl, fun j q1 q2 => by omega⟩
    · rw [if_neg c1]
      have hn := ih χ l1 l2 (l3 + 1) (by omega) (by omega) (by omega) h4
      have step : ¬ (χ 195 (11 + l3).toNat = l2 ∧ χ 195 (19 + l3).toNat = χ 192 14) → (F_RideLawsModel_readSeat_192_l93 n χ l1 l2 (l3 + 1) = (1, hf_up (F_RideLawsModel_next_192 (hf_up (hf_up χ 195 (11 + l1).toNat l2) 195 (19 + l1).toNat (χ 192 14))) 195 1 (F_RideLawsModel_next_192 (hf_up (hf_up χ 195 (11 + l1).toNat l2) 195 (19 + l1).toNat (χ 192 14)) 195 1 + 1)) ∧
          ∀ j : Nat, l3 ≤ (j : Int) → (j : Int) < l1 → ¬ (χ 195 (11 + j) = l2 ∧ χ 195 (19 + j) = χ 192 14)) ∨
          (F_RideLawsModel_readSeat_192_l93 n χ l1 l2 (l3 + 1) = F_RideLawsModel_bad_192 χ 3 ∧ ∃ j : Nat, l3 ≤ (j : Int) ∧ (j : Int) < l1 ∧ χ 195 (11 + j) = l2 ∧ χ 195 (19 + j) = χ 192 14) := by
        intro hc
        rw [show (11 + l3).toNat = 11 + l3.toNat by omega, show (19 + l3).toNat = 19 + l3.toNat by omega] at hc
        rcases hn with ⟨i1, i2⟩ | ⟨i1, j, i2, i3, i4, i5⟩
        · refine Or.inl ⟨i1, fun j q1 q2 => ?_⟩
          by_cases hj : (j : Int) = l3
          · rw [show j = l3.toNat by omega]; exact hc
          · exact i2 j (by omega) q2
        · exact Or.inr ⟨i1, j, by omega, i3, i4, i5⟩
      by_cases c2 : χ 195 (11 + l3).toNat = l2
      · rw [if_neg (fun q => q c2)]
        by_cases c3 : χ 195 (19 + l3).toNat = χ 192 14
        · rw [if_neg (fun q => q c3)]
          rw [show (11 + l3).toNat = 11 + l3.toNat by omega] at c2
          rw [show (19 + l3).toNat = 19 + l3.toNat by omega] at c3
          exact Or.inr ⟨rfl, l3.toNat, by omega, by omega, c2, c3⟩
        · rw [if_pos c3]
          exact step (fun q => c3 q.2)
      · rw [if_pos c2]
        exact step (fun q => c2 q.1)
theorem seat_rel {φ χ ψ ξ : hf_F} {r s : Int} (h : DRP φ χ) (e1 : F_RideText_readSeat_182 φ = (r, ψ)) (e2 : F_RideLawsModel_readSeat_192 χ = (s, ξ)) : LR r s ψ ξ := by
  have kc := K_F_RideText_readSeat_182 h.1.1.1 e1
  have km := K_F_RideLawsModel_readSeat_192 h.1.1.2 e2
  unfold F_RideText_readSeat_182 at e1
  unfold F_RideLawsModel_readSeat_192 at e2
  have b := ctb h.1.1.2
  unfold CTB at b
  obtain ⟨z1, ψ1, h1⟩ : ∃ a b, F_RideText_readNew_182_k1_1 φ = (a, b) := ⟨_, _, rfl⟩
  rw [bnd_e h1] at e1
  rcases new_1 h h1 with ⟨n1, n2, n3⟩ | ⟨n1, n2⟩
  · rw [n2, if_neg (fun q => q cmp00)] at e1
    rw [if_neg (fun q => q n1), bnd_e (show F_RideLawsModel_bad_192 χ 4 = (_, _) from rfl)] at e2
    cases e1
    cases e2
    exact Or.inr ⟨rfl, rfl, n3⟩
  rw [if_pos (show ¬ χ 195 1 = 8 by omega), bnv_e rfl] at e2
  obtain ⟨z3, ξ3, g3⟩ : ∃ a b, F_RideLawsModel_fresh_192 (F_RideLawsModel_next_192 χ) (36 + χ 195 1) = (a, b) := ⟨_, _, rfl⟩
  rw [bnd_e g3] at e2
  rcases n2 _ _ _ rfl g3 with ⟨m1, m2, m3⟩ | ⟨m1, m2, m3, m4, m5, m6, m7, m8⟩
  · rw [m1, if_neg (fun q => q cmp00)] at e1
    rw [if_pos m2] at e2
    cases e1
    cases e2
    exact Or.inr ⟨rfl, rfl, m3⟩
  rw [if_pos (fun q => m1 ((cmp_0 m3).mp q))] at e1
  rw [if_neg (show ¬ z3 = 0 by omega)] at e2
  obtain ⟨d1, d2, d3, d4, d5, d6, d7, d8, d9⟩ := h.2
  have c0 := d1
  unfold CTR at c0
  obtain ⟨z4, ψ4, h4⟩ : ∃ a b, F_Reader_peekNamed_1_31_k2_0 ψ1 = (a, b) := ⟨_, _, rfl⟩
  obtain ⟨z6, ξ6, g6⟩ : ∃ a b, F_RideLawsModel_takesName_192 ξ3 33 (ξ3 195 0) = (a, b) := ⟨_, _, rfl⟩
  rw [bnd_e h4] at e1
  rw [bnd_e g6] at e2
  have q32 : ψ1 32 0 = ξ3 195 0 := by rw [m8 32 0 (by decide), m7 0]; exact c0.1
  rcases tn_31_0 m4 q32 (by rw [q32, m7]; omega) (nmr_g d2.1 (m7 0) (fun i hi => m8 33 _ (by decide)) (fun i hi => m6 _ (by omega))) h4 g6 with ⟨t1, t2, t3, t4, t5⟩ | ⟨t1, t2, t3⟩
  · rw [m7 0] at t3
    rw [if_pos (show ¬ z4 = -1 by omega), bnv_e rfl, t4] at e1
    rw [if_pos (show ¬ z6 = 0 by omega)] at e2
    obtain ⟨r1, r2, r3, r4, r5⟩ := rp_gadv (v := z4) m4 (by omega) (by omega)
    rw [← t5] at r1 r3 r4 r5
    rw [r3] at e2
    have v34 : F_Reader_advance_1 ψ1 34 z4.toNat = χ 195 (5 + z4.toNat) := by
      rw [r2 34 _ (by decide), m8 34 _ (by decide)]
      exact (d3 z4.toNat (by omega)).1
    have w95 : ∀ k, ξ6 195 k = χ 195 k := fun k => (r4 k).trans (m7 k)
    rw [show (5 + z4).toNat = 5 + z4.toNat by omega, w95] at e2
    have st30 : 0 ≤ χ 195 (5 + z4.toNat) ∧ χ 195 (5 + z4.toNat) ≤ 30 := by
      have := iv_ar (a := 195) (s := 5) (t := 8) (lo := 0) (u := 30) (z := 5 + z4) h.1.1.2 (by decide +kernel) (by omega) (by omega)
      rw [show (5 + z4).toNat = 5 + z4.toNat by omega] at this
      exact this
    rw [v34] at e1
    have kd5 : ∀ a k, (32 ≤ a ∧ a ≤ 48 ∧ ¬ a = 43) → F_Reader_advance_1 ψ1 a k = φ a k := fun a k q => (r2 a k q).trans (m8 a k q)
    have w97 : ∀ k : Nat, ¬ k = (36 + χ 195 1).toNat → ξ6 197 k = χ 197 k := fun k hk => (r5 k).trans (m6 k hk)
    have w97n : ξ6 197 (36 + χ 195 1).toNat = G8 z1 := (r5 _).trans m5
    generalize F_Reader_advance_1 ψ1 = ψ5 at e1 r1 kd5
    have hx := r1.2.2.2.2.2
    obtain ⟨z7, ψ7, h7⟩ : ∃ a b, F_Reader_peekNumber_1 ψ5 0 (χ 195 (5 + z4.toNat) - 1) = (a, b) := ⟨_, _, rfl⟩
    rw [bnd_e h7] at e1
    unfold F_Reader_peekNumber_1 at h7
    have hrf : ∀ (k : Int) {a : Int} {ψ' : hf_F}, bnd (F_Reader_refuse_1 ψ5 k) (fun _ ψ => ((-1 : Int), ψ)) = (a, ψ') → a = -1 ∧ FP ψ' (F_RideLawsModel_bad_192 ξ6 k).2 := by
      intro k a ψ' q1
      have := rf_bad r1 (show F_Reader_refuse_1 ψ5 k = (_, _) from rfl) (show F_RideLawsModel_bad_192 ξ6 k = (_, _) from rfl)
      rw [bnd_e (show F_Reader_refuse_1 ψ5 k = (_, _) from rfl)] at q1
      cases q1
      exact ⟨rfl, this.2.2⟩
    by_cases c4 : ψ5 1 5 = 4
    · have c5 : ξ6 192 11 = 2 ∧ ψ5 1 7 = ξ6 192 14 := by
        rcases hx with ⟨x1, x2⟩ | ⟨x1, x2⟩ | ⟨x1, x2, x3⟩ | ⟨x1, x2, x3⟩ | ⟨x1, x2, x3, x4, ⟨x5, _⟩ | ⟨x5, _⟩⟩ <;> omega
      have c6 : 0 ≤ ξ6 192 14 := (iv_at (a := 192) (k := 14) (lo := 0) (u := 8214) r1.1.2 (by decide +kernel)).1
      rw [if_pos c4, if_neg (show ¬ ψ5 1 7 < 0 by omega)] at h7
      rw [if_pos c5.1] at e2
      by_cases c7 : ξ6 192 14 < χ 195 (5 + z4.toNat)
      · rw [if_pos (show ψ5 1 7 ≤ χ 195 (5 + z4.toNat) - 1 by omega)] at h7
        rw [if_pos c7] at e2
        cases h7
        rw [if_pos (show ¬ ψ5 1 7 = -1 by omega), bnp_e rfl] at e1
        have tk := tak_l 9 ψ5 z4 (ψ5 1 7) 0 (by decide) (by decide) (by decide) (by rw [kd5 32 1 (by decide)]; omega)
        have mk := mseat_l 9 ξ6 (χ 195 1) z4 0 (by decide) (by decide) (by decide) (by omega)
        have hat : ∀ j : Nat, (j : Int) < χ 195 1 → (ψ5 36 j = χ 195 (11 + j) ∧ jm_n (ψ5 44 j) = χ 195 (19 + j)) := by
          intro j hj
          obtain ⟨q1, q2, g, q3, q4, q5, q6, q7, q8⟩ := d4 j hj
          rw [kd5 36 j (by decide), kd5 44 j (by decide), q2]
          have := iv_ar (a := 195) (s := 5) (t := 8) (lo := 0) (u := 30) (z := 5 + g) h.1.1.2 (by decide +kernel) (by omega) (by omega)
          rw [show ((5 : Int) + g).toNat = 5 + g by omega] at this
          exact ⟨q1, hi_n (by unfold hi; omega)⟩
        have hc1 : ψ5 32 1 = χ 195 1 := (kd5 32 1 (by decide)).trans c0.2.1
        rcases tk with ⟨k1, k2⟩ | ⟨k1, j, k2, k3, k4, k5⟩
        · rcases mk with ⟨j1, j2⟩ | ⟨j1, j, j2, j3, j4, j5⟩
          · -- added
            rw [if_pos (show F_RideText_isTaken_182 ψ5 z4 (ψ5 1 7) = 0 from k1), bnv_e rfl] at e1
            rw [show (8 - 0 : Int).toNat + 1 = 9 from rfl, j1] at e2
            have i2 : Inv (hf_up (hf_up ξ6 195 (11 + χ 195 1).toNat z4) 195 (19 + χ 195 1).toNat (ξ6 192 14)) := by
              have i1 : Inv (hf_up ξ6 195 (11 + χ 195 1).toNat z4) := iv_seat1 r1.1.2 (by rw [w95]) (by rw [w95]; omega) (by omega) (by omega)
              exact iv_upI (s := 19) (t := 27) (lo := 0) (u := 29) (z := 19 + χ 195 1) i1 (by decide +kernel) (by omega) (by omega) (by omega) (by omega)
            have rq : RP ψ5 (hf_up (hf_up ξ6 195 (11 + χ 195 1).toNat z4) 195 (19 + χ 195 1).toNat (ξ6 192 14)) := rp_f r1 r1.1.1 i2 (fun _ _ => rfl) (fun _ _ => rfl) (fun _ => rfl) (fun _ => rfl) (fun _ => rfl) (fun _ => rfl)
            have ra := rp_adv rq rfl rfl
            have kd : ∀ a k, (32 ≤ a ∧ a ≤ 48 ∧ ¬ a = 43) → F_Reader_advance_1 ψ5 a k = φ a k := fun a k q => (fr_hi ra.2.1 (by decide) (obl_d q) (by omega) k).trans (kd5 a k q)
            have y95 : ∀ k : Nat, F_RideLawsModel_next_192 (hf_up (hf_up ξ6 195 (11 + χ 195 1).toNat z4) 195 (19 + χ 195 1).toNat (ξ6 192 14)) 195 k = hf_up (hf_up ξ6 195 (11 + χ 195 1).toNat z4) 195 (19 + χ 195 1).toNat (ξ6 192 14) 195 k := fun k => fr_at ra.2.2 195 (by decide) k
            have y97 : ∀ k : Nat, F_RideLawsModel_next_192 (hf_up (hf_up ξ6 195 (11 + χ 195 1).toNat z4) 195 (19 + χ 195 1).toNat (ξ6 192 14)) 197 k = ξ6 197 k := fun k => (fr_at ra.2.2 197 (by decide) k).trans rfl
            have ra1 := ra.1
            generalize F_RideLawsModel_next_192 (hf_up (hf_up ξ6 195 (11 + χ 195 1).toNat z4) 195 (19 + χ 195 1).toNat (ξ6 192 14)) = ξ9 at e2 ra1 y95 y97
            generalize F_Reader_advance_1 ψ5 = ψ8 at e1 ra1 kd
            have k0 : ψ8 32 1 = χ 195 1 := (kd 32 1 (by decide)).trans c0.2.1
            have l0 : ξ9 195 1 = χ 195 1 := by rw [y95, hf_up_ne (fun q => by omega), hf_up_ne (fun q => by omega), w95]
            have p34 : (hf_up (hf_up ψ8 33 (8 + ψ8 32 1).toNat z1) 32 1 (ψ8 32 1 + 1)) 34 z4.toNat = χ 195 (5 + z4.toNat) := (show ψ8 34 z4.toNat = _ from (kd 34 _ (by decide)).trans (d3 z4.toNat (by omega)).1)
            have p35 : (hf_up (hf_up ψ8 33 (8 + ψ8 32 1).toNat z1) 32 1 (ψ8 32 1 + 1)) 35 z4.toNat = χ 195 (8 + z4.toNat) := (show ψ8 35 z4.toNat = _ from (kd 35 _ (by decide)).trans (d3 z4.toNat (by omega)).2)
            have hA : F_Plan_addSeat_31 ψ8 z1 z4 = (ψ8 32 1, hf_up (hf_up (hf_up (hf_up (hf_up ψ8 33 (8 + ψ8 32 1).toNat z1) 32 1 (ψ8 32 1 + 1)) 36 (ψ8 32 1).toNat z4) 38 (ψ8 32 1).toNat (χ 195 (5 + z4.toNat))) 37 (ψ8 32 1).toNat ((χ 195 (8 + z4.toNat)).tmod (χ 195 (5 + z4.toNat)))) := by
              unfold F_Plan_addSeat_31 F_Plan_addNamed_31_k1_1
              rw [bnd_e rfl, p34, p35, if_neg (show ¬ χ 195 (5 + z4.toNat) ≤ 0 by omega)]
            rw [bnd_e hA, k0] at e1
            rw [l0] at e2
            have s14 : ψ5 1 7 = ξ6 192 14 := c5.2
            rw [s14] at e1
            cases e1
            cases e2
            have x95 : ∀ k : Nat, ¬ k = 1 → ¬ k = (11 + χ 195 1).toNat → ¬ k = (19 + χ 195 1).toNat → hf_up ξ9 195 1 (χ 195 1 + 1) 195 k = χ 195 k := fun k q0 q1 q2 => by
              rw [hf_up_ne (fun w => q0 w.2), y95, hf_up_ne (fun w => q2 w.2), hf_up_ne (fun w => q1 w.2), w95]
            have x97 : ∀ k, hf_up ξ9 195 1 (χ 195 1 + 1) 197 k = ξ6 197 k := fun k => (hf_up_ne (fun w => absurd w.1 (by decide))).trans (y97 k)
            have x0 : hf_up ξ9 195 1 (χ 195 1 + 1) 195 1 = χ 195 1 + 1 := hf_up_eq
            have x11 : hf_up ξ9 195 1 (χ 195 1 + 1) 195 (11 + χ 195 1).toNat = z4 := by
              rw [hf_up_ne (fun w => by omega), y95, hf_up_ne (fun w => by omega), hf_up_eq]
            have x19 : hf_up ξ9 195 1 (χ 195 1 + 1) 195 (19 + χ 195 1).toNat = ξ6 192 14 := by
              rw [hf_up_ne (fun w => by omega), y95, hf_up_eq]
            refine Or.inl ⟨rfl, rfl, ⟨?_, ?_, ?_, ?_, ?_, ?_, ?_, ?_, ?_, ?_⟩⟩
            · exact rp_f ra1 kc.1 km.1 (fun _ _ => rfl) (fun j hj => hf_up_ne (fun q => absurd q.1 (by decide))) (fun _ => rfl) (fun j => hf_up_ne (fun q => absurd q.1 (by decide))) (fun _ => rfl) (fun j => hf_up_ne (fun q => absurd q.1 (by decide)))
            · unfold CTR
              rw [x0, x95 0 (by omega) (by omega) (by omega), x95 2 (by omega) (by omega) (by omega), x95 3 (by omega) (by omega) (by omega), x95 4 (by omega) (by omega) (by omega)]
              exact ⟨(kd 32 0 (by decide)).trans c0.1, rfl, (kd 32 2 (by decide)).trans c0.2.2.1, (kd 32 3 (by decide)).trans c0.2.2.2.1, (kd 32 4 (by decide)).trans c0.2.2.2.2⟩
            · have y : ∀ k : Nat, ¬ k = (8 + χ 195 1).toNat → hf_up ψ8 33 (8 + χ 195 1).toNat z1 33 k = φ 33 k := fun k hk => (hf_up_ne (fun w => hk w.2)).trans (kd 33 k (by decide))
              have y1 : hf_up ψ8 33 (8 + χ 195 1).toNat z1 33 (8 + (χ 195 1).toNat) = z1 := by
                rw [show 8 + (χ 195 1).toNat = (8 + χ 195 1).toNat by omega]
                exact hf_up_eq
              have z97 : ∀ k : Nat, ¬ k = (36 + χ 195 1).toNat → hf_up ξ9 195 1 (χ 195 1 + 1) 197 k = χ 197 k := fun k hk => (x97 k).trans (w97 k hk)
              refine ⟨nmr_g d2.1 (x95 0 (by omega) (by omega) (by omega)) (fun i hi => y _ (by omega)) (fun i hi => z97 _ (by omega)), nmr_a d2.2.1 (by omega) x0 (fun i hi => y _ (by omega)) (fun i hi => z97 _ (by omega)) m3 y1 ?_, ?_, ?_, ?_⟩
              · rw [x97, show 36 + (χ 195 1).toNat = (36 + χ 195 1).toNat by omega]; exact w97n
              · exact nmr_g d2.2.2.1 (x95 2 (by omega) (by omega) (by omega)) (fun i hi => y _ (by omega)) (fun i hi => z97 _ (by omega))
              · exact nmr_g d2.2.2.2.1 (x95 3 (by omega) (by omega) (by omega)) (fun i hi => y _ (by omega)) (fun i hi => z97 _ (by omega))
              · exact nmr_g d2.2.2.2.2 (x95 4 (by omega) (by omega) (by omega)) (fun i hi => y _ (by omega)) (fun i hi => z97 _ (by omega))
            · exact rgr_f d3 (fun k => kd 34 k (by decide)) (fun k => kd 35 k (by decide)) (fun j hj => x95 j (by omega) (by omega) (by omega)) (by omega)
            · intro i hi
              rw [x0] at hi
              by_cases hc : (i : Int) < χ 195 1
              · obtain ⟨q1, q2, g, q3, q4, q5, q6, q7, q8⟩ := d4 i hc
                rw [x95 (11 + i) (by omega) (by omega) (by omega), x95 (19 + i) (by omega) (by omega) (by omega)]
                refine ⟨(show hf_up ψ8 36 (χ 195 1).toNat z4 36 i = _ from (hf_up_ne (fun w => by omega)).trans ((kd 36 i (by decide)).trans q1)), (show hf_up ψ8 44 (χ 195 1).toNat (ξ6 192 14) 44 i = _ from (hf_up_ne (fun w => by omega)).trans ((kd 44 i (by decide)).trans q2)), g, ?_, q4, ?_, ?_, q7, ?_⟩
                · rw [x95 0 (by omega) (by omega) (by omega)]; exact q3
                · rw [x95 (5 + g) (by omega) (by omega) (by omega)]
                  exact (show hf_up ψ8 38 (χ 195 1).toNat (χ 195 (5 + z4.toNat)) 38 i = _ from (hf_up_ne (fun w => by omega)).trans ((kd 38 i (by decide)).trans q5))
                · rw [x95 (5 + g) (by omega) (by omega) (by omega), x95 (8 + g) (by omega) (by omega) (by omega)]
                  exact (show hf_up ψ8 37 (χ 195 1).toNat _ 37 i = _ from (hf_up_ne (fun w => by omega)).trans ((kd 37 i (by decide)).trans q6))
                · rw [x95 (5 + g) (by omega) (by omega) (by omega)]; exact q8
              · have hi2 : i = (χ 195 1).toNat := by omega
                rw [show 11 + i = (11 + χ 195 1).toNat by omega, show 19 + i = (19 + χ 195 1).toNat by omega, x11, x19, hi2]
                refine ⟨(show hf_up ψ8 36 (χ 195 1).toNat z4 36 (χ 195 1).toNat = z4 from hf_up_eq), (show hf_up ψ8 44 (χ 195 1).toNat (ξ6 192 14) 44 (χ 195 1).toNat = ξ6 192 14 from hf_up_eq), z4.toNat, ?_, by omega, ?_, ?_, c6, ?_⟩
                · rw [x95 0 (by omega) (by omega) (by omega)]; omega
                · rw [x95 (5 + z4.toNat) (by omega) (by omega) (by omega)]
                  exact (show hf_up ψ8 38 (χ 195 1).toNat (χ 195 (5 + z4.toNat)) 38 (χ 195 1).toNat = _ from hf_up_eq)
                · rw [x95 (5 + z4.toNat) (by omega) (by omega) (by omega), x95 (8 + z4.toNat) (by omega) (by omega) (by omega)]
                  exact (show hf_up ψ8 37 (χ 195 1).toNat ((χ 195 (8 + z4.toNat)).tmod (χ 195 (5 + z4.toNat))) 37 (χ 195 1).toNat = _ from hf_up_eq)
                · rw [x95 (5 + z4.toNat) (by omega) (by omega) (by omega)]; exact c7
            · exact rdr_f d5 (fun k => kd 46 k (by decide)) (fun k => kd 47 k (by decide)) (fun k => kd 48 k (by decide)) (fun j hj => x95 j (by omega) (by omega) (by omega)) (by rw [x0]; omega) (by rw [x95 2 (by omega) (by omega) (by omega)]; omega) (lng_b h.1.1.2)
            · exact str_f d6 (fun k => kd 45 k (by decide)) (fun j hj => x95 j (by omega) (by omega) (by omega))
            · exact lwr_f d7 (fun k => kd 39 k (by decide)) (fun k => kd 40 k (by decide)) (fun j hj => x95 j (by omega) (by omega) (by omega)) (by rw [x95 2 (by omega) (by omega) (by omega)]; omega) (by omega)
            · exact lor_f d8 (fun k => kd 42 k (by decide)) (fun j hj => x95 j (by omega) (by omega) (by omega)) (by omega)
            · exact clr_f d9 (fun k => kd 41 k (by decide)) (fun j hj => x95 j (by omega) (by omega) (by omega))
          · exfalso
            rw [w95] at j4 j5
            have := hat j j3
            exact k2 j (by omega) (by omega) ⟨by rw [this.1]; exact j4, by rw [this.2, c5.2]; exact j5⟩
        · rcases mk with ⟨j1, j2⟩ | ⟨j1, j', j2, j3, j4, j5⟩
          · exfalso
            have := hat j (by omega)
            refine j2 j (by omega) (by omega) ⟨?_, ?_⟩
            · rw [w95, ← this.1]; exact k4
            · rw [w95, ← this.2, k5]; exact c5.2
          · rw [if_neg (show ¬ F_RideText_isTaken_182 ψ5 z4 (ψ5 1 7) = 0 by rw [show F_RideText_isTaken_182 ψ5 z4 (ψ5 1 7) = 1 from k1]; decide), bnd_e (show F_Reader_refuse_1 ψ5 3 = (_, _) from rfl)] at e1
            rw [show (8 - 0 : Int).toNat + 1 = 9 from rfl, j1] at e2
            have := rf_bad r1 (show F_Reader_refuse_1 ψ5 3 = (_, _) from rfl) e2
            cases e1
            exact Or.inr ⟨rfl, this.2.1, this.2.2⟩
      · rw [if_neg (show ¬ ψ5 1 7 ≤ χ 195 (5 + z4.toNat) - 1 by omega)] at h7
        rw [if_neg c7, bnd_e (show F_RideLawsModel_bad_192 ξ6 2 = (_, _) from rfl)] at e2
        have := hrf 2 h7
        rw [if_neg (fun q => q this.1)] at e1
        cases e1
        cases e2
        exact Or.inr ⟨rfl, rfl, this.2⟩
    · have c5 : ¬ ξ6 192 11 = 2 := by
        rcases hx with ⟨x1, x2⟩ | ⟨x1, x2⟩ | ⟨x1, x2, x3⟩ | ⟨x1, x2, x3⟩ | ⟨x1, x2, x3, x4, x5⟩ <;> omega
      rw [if_neg c4] at h7
      rw [if_neg c5, bnd_e (show F_RideLawsModel_bad_192 ξ6 1 = (_, _) from rfl)] at e2
      have := hrf 1 h7
      rw [if_neg (fun q => q this.1)] at e1
      cases e1
      cases e2
      exact Or.inr ⟨rfl, rfl, this.2⟩
  · rw [if_neg (fun q => q t2)] at e1
    rw [if_neg (fun q => q t1)] at e2
    cases e1
    cases e2
    exact Or.inr ⟨rfl, rfl, t3⟩
