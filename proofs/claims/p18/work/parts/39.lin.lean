/-! the lines of a RIDE: rider, says -/
noncomputable def LX (r s : Int) (ψ ξ : hf_F) : Prop := LR r s ψ ξ ∨ (r = 1 ∧ s = 0 ∧ ψ 1 5 = 3 ∧ ξ 192 15 = 1 ∧ ψ 1 6 = ξ 192 16)
theorem mrid_l : ∀ (n : Nat) (χ : hf_F) (l1 l2 : Int), 6 - l2 < n → 0 ≤ l2 → l2 ≤ 6 → l1 ≤ 6 →
    (F_RideLawsModel_readRider_192_l63 n χ l1 l2 = (1, hf_up (F_RideLawsModel_next_192 (hf_up χ 195 (27 + l1).toNat (χ 192 18 + 1))) 195 3 (F_RideLawsModel_next_192 (hf_up χ 195 (27 + l1).toNat (χ 192 18 + 1)) 195 3 + 1)) ∧
      ∀ j : Nat, l2 ≤ (j : Int) → (j : Int) < l1 → ¬ χ 195 (27 + j) = χ 192 18 + 1) ∨
    (F_RideLawsModel_readRider_192_l63 n χ l1 l2 = F_RideLawsModel_bad_192 χ 3 ∧ ∃ j : Nat, l2 ≤ (j : Int) ∧ (j : Int) < l1 ∧ χ 195 (27 + j) = χ 192 18 + 1) := by
  intro n
  induction n with
  | zero => intro χ l1 l2 h1 h2 h3; omega
  | succ n ih =>
    intro χ l1 l2 h1 h2 h3 h4
    rw [F_RideLawsModel_readRider_192_l63_s]
    by_cases c1 : l1 ≤ l2
    · rw [if_pos c1]
      exact Or.inl ⟨rfl, fun j q1 q2 => by omega⟩
    · rw [if_neg c1]
      have hn := ih χ l1 (l2 + 1) (by omega) (by omega) (by omega) h4
      by_cases c2 : χ 195 (27 + l2).toNat = χ 192 18 + 1
      · rw [if_neg (fun q => q c2)]
        rw [show (27 + l2).toNat = 27 + l2.toNat by omega] at c2
        exact Or.inr ⟨rfl, l2.toNat, by omega, by omega, c2⟩
      · rw [if_pos c2]
        rw [show (27 + l2).toNat = 27 + l2.toNat by omega] at c2
        rcases hn with ⟨i1, i2⟩ | ⟨i1, j, i2, i3, i4⟩
        · refine Or.inl ⟨i1, fun j q1 q2 => ?_⟩
          by_cases hj : (j : Int) = l2
          · rw [show j = l2.toNat by omega]; exact c2
          · exact i2 j (by omega) q2
        · exact Or.inr ⟨i1, j, by omega, i3, i4⟩
theorem rider_rel {φ χ ψ ξ : hf_F} {r s : Int} (h : DRP φ χ) (e1 : F_RideText_readRider_182 φ = (r, ψ)) (e2 : F_RideLawsModel_readRider_192 χ = (s, ξ)) : LX r s ψ ξ := by
  have kc := K_F_RideText_readRider_182 h.1.1.1 e1
  have km := K_F_RideLawsModel_readRider_192 h.1.1.2 e2
  unfold F_RideText_readRider_182 at e1
  unfold F_RideLawsModel_readRider_192 at e2
  have b := ctb h.1.1.2
  unfold CTB at b
  obtain ⟨z1, ψ1, h1⟩ : ∃ a b, F_RideText_readNew_182_k1_3 φ = (a, b) := ⟨_, _, rfl⟩
  rw [bnd_e h1] at e1
  rcases new_3 h h1 with ⟨n1, n2, n3⟩ | ⟨n1, n2⟩
  · rw [n2, if_neg (fun q => q cmp00)] at e1
    rw [if_neg (fun q => q n1), bnd_e (show F_RideLawsModel_bad_192 χ 4 = (_, _) from rfl)] at e2
    cases e1
    cases e2
    exact Or.inl (Or.inr ⟨rfl, rfl, n3⟩)
  rw [if_pos (show ¬ χ 195 3 = 6 by omega), bnv_e rfl] at e2
  obtain ⟨z3, ξ3, g3⟩ : ∃ a b, F_RideLawsModel_fresh_192 (F_RideLawsModel_next_192 χ) (52 + χ 195 3) = (a, b) := ⟨_, _, rfl⟩
  rw [bnd_e g3] at e2
  rcases n2 _ _ _ rfl g3 with ⟨m1, m2, m3⟩ | ⟨m1, m2, m3, m4, m5, m6, m7, m8⟩
  · rw [m1, if_neg (fun q => q cmp00)] at e1
    rw [if_neg (fun q => q m2)] at e2
    cases e1
    cases e2
    exact Or.inl (Or.inr ⟨rfl, rfl, m3⟩)
  rw [if_pos (fun q => m1 ((cmp_0 m3).mp q))] at e1
  rw [if_pos (show ¬ z3 = 0 by omega)] at e2
  obtain ⟨d1, d2, d3, d4, d5, d6, d7, d8, d9⟩ := h.2
  have c0 := d1
  unfold CTR at c0
  have hx := m4.2.2.2.2.2
  have hA : ∀ ψ8 : hf_F, ψ8 32 3 = χ 195 3 → F_Plan_addNamed_31_k1_3 ψ8 z1 = (χ 195 3, hf_up (hf_up ψ8 33 (24 + χ 195 3).toNat z1) 32 3 (χ 195 3 + 1)) := by
    intro ψ8 q
    unfold F_Plan_addNamed_31_k1_3
    rw [q]
  by_cases c4 : ψ1 1 5 = 2
  · have c5 : ξ3 192 11 = 1 := (rp_w m4 c4).2.2.2
    rw [if_pos c4] at e1
    rw [if_neg (fun q => q c5)] at e2
    obtain ⟨z4, ψ4, h4⟩ : ∃ a b, F_Reader_peekNamed_1_31_k2_1 ψ1 = (a, b) := ⟨_, _, rfl⟩
    obtain ⟨z6, ξ6, g6⟩ : ∃ a b, F_RideLawsModel_looksAt_192 ξ3 36 (ξ3 195 1) = (a, b) := ⟨_, _, rfl⟩
    rw [bnd_e h4] at e1
    rw [bnd_e g6] at e2
    have q32 : ψ1 32 1 = ξ3 195 1 := by rw [m8 32 1 (by decide), m7 1]; exact c0.2.1
    rcases pn_31_1 m4 q32 (by rw [q32, m7]; omega) (nmr_g d2.2.1 (m7 1) (fun i hi => m8 33 _ (by decide)) (fun i hi => m6 _ (by omega))) h4 g6 with ⟨t1, t2, t3, t4, t5⟩ | ⟨t1, t2, t3⟩
    · rw [m7 1] at t3
      rw [if_pos (show ¬ z4 = -1 by omega), t4] at e1
      rw [if_pos (show ¬ z6 = 0 by omega)] at e2
      have mk := mrid_l 7 ξ6 (χ 195 3) 0 (by decide) (by decide) (by decide) (by omega)
      have w95 : ∀ k, ξ6 195 k = χ 195 k := fun k => by rw [t5, hf_up_ne (fun q => absurd q.1 (by decide)), m7]
      have w18 : ξ6 192 18 = z4 := by rw [t5, hf_up_eq]
      have w97 : ∀ k : Nat, ¬ k = (52 + χ 195 3).toNat → ξ6 197 k = χ 197 k := fun k hk => by rw [t5, hf_up_ne (fun q => absurd q.1 (by decide)), m6 k hk]
      have w97n : ξ6 197 (52 + χ 195 3).toNat = G8 z1 := by rw [t5, hf_up_ne (fun q => absurd q.1 (by decide)), m5]
      have r6 : RP ψ1 ξ6 := by rw [t5]; exact rp_got m4 (by omega) (by omega)
      rw [w18] at mk
      have k45 : ψ1 45 z4.toNat = φ 45 z4.toNat := m8 45 _ (by decide)
      by_cases c6 : ψ1 45 z4.toNat = -1
      · rw [if_pos c6, bnv_e rfl] at e1
        have hst : ∀ r : Nat, r < 6 → ¬ χ 195 (27 + r) = z4 + 1 := by
          rcases d6 z4.toNat (by omega) with ⟨q1, q2⟩ | ⟨q, q1, q2, q3⟩
          · intro r hr
            have := q2 r hr
            omega
          · omega
        rcases mk with ⟨j1, j2⟩ | ⟨j1, j, j2, j3, j4⟩
        · rw [show (6 - 0 : Int).toNat + 1 = 7 from rfl, j1] at e2
          have i2 : Inv (hf_up ξ6 195 (27 + χ 195 3).toNat (z4 + 1)) := iv_upI (s := 27) (t := 33) (lo := 0) (u := 8) (z := 27 + χ 195 3) r6.1.2 (by decide +kernel) (by omega) (by omega) (by omega) (by omega)
          have rq : RP ψ1 (hf_up ξ6 195 (27 + χ 195 3).toNat (z4 + 1)) := rp_f r6 r6.1.1 i2 (fun _ _ => rfl) (fun _ _ => rfl) (fun _ => rfl) (fun _ => rfl) (fun _ => rfl) (fun _ => rfl)
          have ra := rp_adv rq rfl rfl
          have kd : ∀ a k, (32 ≤ a ∧ a ≤ 48 ∧ ¬ a = 43) → F_Reader_advance_1 ψ1 a k = φ a k := fun a k q => (fr_hi ra.2.1 (by decide) (obl_d q) (by omega) k).trans (m8 a k q)
          have y95 : ∀ k : Nat, F_RideLawsModel_next_192 (hf_up ξ6 195 (27 + χ 195 3).toNat (z4 + 1)) 195 k = hf_up ξ6 195 (27 + χ 195 3).toNat (z4 + 1) 195 k := fun k => fr_at ra.2.2 195 (by decide) k
          have y97 : ∀ k : Nat, F_RideLawsModel_next_192 (hf_up ξ6 195 (27 + χ 195 3).toNat (z4 + 1)) 197 k = ξ6 197 k := fun k => (fr_at ra.2.2 197 (by decide) k).trans rfl
          have ra1 := ra.1
          generalize F_RideLawsModel_next_192 (hf_up ξ6 195 (27 + χ 195 3).toNat (z4 + 1)) = ξ9 at e2 ra1 y95 y97
          generalize F_Reader_advance_1 ψ1 = ψ8 at e1 ra1 kd
          rw [bnd_e (hA ψ8 ((kd 32 3 (by decide)).trans c0.2.2.2.1)), bnv_e rfl] at e1
          have l0 : ξ9 195 3 = χ 195 3 := by rw [y95, hf_up_ne (fun q => by omega), w95]
          rw [l0] at e2
          unfold F_State_sitDown_43 at e1
          cases e1
          cases e2
          have x95 : ∀ k : Nat, ¬ k = 3 → ¬ k = (27 + χ 195 3).toNat → hf_up ξ9 195 3 (χ 195 3 + 1) 195 k = χ 195 k := fun k q0 q1 => by
            rw [hf_up_ne (fun w => q0 w.2), y95, hf_up_ne (fun w => q1 w.2), w95]
          have x97 : ∀ k, hf_up ξ9 195 3 (χ 195 3 + 1) 197 k = ξ6 197 k := fun k => (hf_up_ne (fun w => absurd w.1 (by decide))).trans (y97 k)
          have x0 : hf_up ξ9 195 3 (χ 195 3 + 1) 195 3 = χ 195 3 + 1 := hf_up_eq
          have x27 : hf_up ξ9 195 3 (χ 195 3 + 1) 195 (27 + χ 195 3).toNat = z4 + 1 := by
            rw [hf_up_ne (fun w => by omega), y95, hf_up_eq]
          refine Or.inl (Or.inl ⟨rfl, rfl, ⟨?_, ?_, ?_, ?_, ?_, ?_, ?_, ?_, ?_, ?_⟩⟩)
          · exact rp_f ra1 kc.1 km.1 (fun _ _ => rfl) (fun j hj => hf_up_ne (fun q => absurd q.1 (by decide))) (fun _ => rfl) (fun j => hf_up_ne (fun q => absurd q.1 (by decide))) (fun _ => rfl) (fun j => hf_up_ne (fun q => absurd q.1 (by decide)))
          · unfold CTR
            rw [x0, x95 0 (by omega) (by omega), x95 1 (by omega) (by omega), x95 2 (by omega) (by omega), x95 4 (by omega) (by omega)]
            exact ⟨(kd 32 0 (by decide)).trans c0.1, (kd 32 1 (by decide)).trans c0.2.1, (kd 32 2 (by decide)).trans c0.2.2.1, rfl, (kd 32 4 (by decide)).trans c0.2.2.2.2⟩
          · have y : ∀ k : Nat, ¬ k = (24 + χ 195 3).toNat → hf_up ψ8 33 (24 + χ 195 3).toNat z1 33 k = φ 33 k := fun k hk => (hf_up_ne (fun w => hk w.2)).trans (kd 33 k (by decide))
            have y1 : hf_up ψ8 33 (24 + χ 195 3).toNat z1 33 (24 + (χ 195 3).toNat) = z1 := by
              rw [show 24 + (χ 195 3).toNat = (24 + χ 195 3).toNat by omega]
              exact hf_up_eq
            have z97 : ∀ k : Nat, ¬ k = (52 + χ 195 3).toNat → hf_up ξ9 195 3 (χ 195 3 + 1) 197 k = χ 197 k := fun k hk => (x97 k).trans (w97 k hk)
            refine ⟨nmr_g d2.1 (x95 0 (by omega) (by omega)) (fun i hi => y _ (by omega)) (fun i hi => z97 _ (by omega)), nmr_g d2.2.1 (x95 1 (by omega) (by omega)) (fun i hi => y _ (by omega)) (fun i hi => z97 _ (by omega)), nmr_g d2.2.2.1 (x95 2 (by omega) (by omega)) (fun i hi => y _ (by omega)) (fun i hi => z97 _ (by omega)), nmr_a d2.2.2.2.1 (by omega) x0 (fun i hi => y _ (by omega)) (fun i hi => z97 _ (by omega)) m3 y1 ?_, ?_⟩
            · rw [x97, show 52 + (χ 195 3).toNat = (52 + χ 195 3).toNat by omega]; exact w97n
            · exact nmr_g d2.2.2.2.2 (x95 4 (by omega) (by omega)) (fun i hi => y _ (by omega)) (fun i hi => z97 _ (by omega))
          · exact rgr_f d3 (fun k => kd 34 k (by decide)) (fun k => kd 35 k (by decide)) (fun j hj => x95 j (by omega) (by omega)) (by omega)
          · exact ser_f d4 (fun k => kd 36 k (by decide)) (fun k => kd 37 k (by decide)) (fun k => kd 38 k (by decide)) (fun k => kd 44 k (by decide)) (fun j hj => x95 j (by omega) (by omega)) (by omega)
          · intro q hq
            obtain ⟨q1, q2, q3, q4, q5⟩ := d5 q hq
            have hl := lng_b h.1.1.2 q hq
            rw [x95 (33 + q) (by omega) (by omega), x95 1 (by omega) (by omega), x95 2 (by omega) (by omega), x0]
            by_cases hc : q = (χ 195 3).toNat
            · rw [show 27 + q = (27 + χ 195 3).toNat by omega, x27]
              refine ⟨?_, ?_, fun w => by omega, by omega, fun k hk => ?_⟩
              · rw [hc]
                exact (show hf_up ψ8 46 (χ 195 3).toNat z4 46 (χ 195 3).toNat = _ from hf_up_eq.trans (by omega))
              · exact (show ψ8 47 q = _ from (kd 47 q (by decide)).trans q2)
              · have := (q3 (by omega)).2
                omega
            · rw [x95 (27 + q) (by omega) (by omega)]
              refine ⟨?_, ?_, fun w => q3 (by omega), q4, fun k hk => ?_⟩
              · exact (show hf_up ψ8 46 (χ 195 3).toNat z4 46 q = _ from (hf_up_ne (fun w => hc w.2)).trans ((kd 46 q (by decide)).trans q1))
              · exact (show ψ8 47 q = _ from (kd 47 q (by decide)).trans q2)
              · rw [x95 (39 + 6 * q + k) (by omega) (by omega)]
                exact ⟨(show ψ8 48 (6 * q + k) = _ from (kd 48 _ (by decide)).trans (q5 k hk).1), (q5 k hk).2⟩
          · intro v hv
            by_cases hc : v = z4.toNat
            · refine Or.inr ⟨(χ 195 3).toNat, by omega, ?_, ?_, fun q hq hq2 => ?_⟩
              · rw [hc]
                exact (show hf_up (hf_up ψ8 46 (χ 195 3).toNat z4) 45 z4.toNat (χ 195 3) 45 z4.toNat = _ from hf_up_eq.trans (by omega))
              · rw [show 27 + (χ 195 3).toNat = (27 + χ 195 3).toNat by omega, x27]; omega
              · refine Classical.byContradiction (fun hne => ?_)
                rw [x95 (27 + q) (by omega) (by omega)] at hq2
                exact hst q hq (by omega)
            · have e45 : hf_up (hf_up (hf_up (hf_up ψ8 33 (24 + χ 195 3).toNat z1) 32 3 (χ 195 3 + 1)) 46 (χ 195 3).toNat z4) 45 z4.toNat (χ 195 3) 45 v = φ 45 v := (hf_up_ne (fun w => hc w.2)).trans (kd 45 v (by decide))
              rw [e45]
              have hne : ∀ q : Nat, q < 6 → hf_up ξ9 195 3 (χ 195 3 + 1) 195 (27 + q) = (v : Int) + 1 → ¬ q = (χ 195 3).toNat ∧ χ 195 (27 + q) = (v : Int) + 1 := by
                intro q hq hq2
                by_cases hq3 : q = (χ 195 3).toNat
                · rw [show 27 + q = (27 + χ 195 3).toNat by omega, x27] at hq2
                  omega
                · rw [x95 (27 + q) (by omega) (by omega)] at hq2
                  exact ⟨hq3, hq2⟩
              rcases d6 v hv with ⟨q1, q2⟩ | ⟨q, q1, q2, q3, q4⟩
              · exact Or.inl ⟨q1, fun q hq hq2 => q2 q hq (hne q hq hq2).2⟩
              · refine Or.inr ⟨q, q1, q2, ?_, fun w hw hw2 => q4 w hw (hne w hw hw2).2⟩
                have hz : ¬ q = (χ 195 3).toNat := by
                  intro hz
                  have := ((d5 q q1).2.2.1 (by omega)).1
                  omega
                rw [x95 (27 + q) (by omega) (by omega)]
                exact q3
          · exact lwr_f d7 (fun k => kd 39 k (by decide)) (fun k => kd 40 k (by decide)) (fun j hj => x95 j (by omega) (by omega)) (by rw [x95 2 (by omega) (by omega)]; omega) (by omega)
          · exact lor_f d8 (fun k => kd 42 k (by decide)) (fun j hj => x95 j (by omega) (by omega)) (by omega)
          · exact clr_f d9 (fun k => kd 41 k (by decide)) (fun j hj => x95 j (by omega) (by omega))
        · exfalso
          rw [w95] at j4
          exact hst j (by omega) j4
      · rw [if_neg c6, bnd_e (show F_Reader_refuse_1 ψ1 3 = (_, _) from rfl)] at e1
        rcases mk with ⟨j1, j2⟩ | ⟨j1, j, j2, j3, j4⟩
        · exfalso
          rcases d6 z4.toNat (by omega) with ⟨q1, q2⟩ | ⟨q, q1, q2, q3, _⟩
          · exact c6 (k45.trans q1)
          · have := j2 q (by omega) (by
              have := (d5 q q1).2.2.1
              by_cases hq : (q : Int) < χ 195 3
              · exact hq
              · have := (this (by omega)).1; omega)
            rw [w95] at this
            omega
        · rw [show (6 - 0 : Int).toNat + 1 = 7 from rfl, j1] at e2
          have := rf_bad r6 (show F_Reader_refuse_1 ψ1 3 = (_, _) from rfl) e2
          cases e1
          exact Or.inl (Or.inr ⟨rfl, this.2.1, this.2.2⟩)
    · rw [if_neg (fun q => q t2)] at e1
      rw [if_neg (fun q => q t1)] at e2
      cases e1
      cases e2
      exact Or.inl (Or.inr ⟨rfl, rfl, t3⟩)
  · rw [if_neg c4] at e1
    rw [bnd_e (hA ψ1 ((m8 32 3 (by decide)).trans c0.2.2.2.1))] at e1
    by_cases c5 : ξ3 192 11 = 1
    · rw [if_neg (fun q => q c5)] at e2
      have c6 : ψ1 1 5 = 3 := by
        rcases hx with ⟨x1, x2⟩ | ⟨x1, x2⟩ | ⟨x1, x2, x3⟩ | ⟨x1, x2, x3⟩ | ⟨x1, x2, x3, x4, ⟨x5, _⟩ | ⟨x5, _⟩⟩ <;> omega
      obtain ⟨z6, ξ6, g6⟩ : ∃ a b, F_RideLawsModel_looksAt_192 ξ3 36 (ξ3 195 1) = (a, b) := ⟨_, _, rfl⟩
      rw [bnd_e g6] at e2
      unfold F_RideLawsModel_looksAt_192 at g6
      have hz := isnm_z m4
      have hnz : F_RideLawsModel_isName_192 ξ3 = 0 := by rw [hz]; exact c4
      rw [bnp_e rfl, if_neg (fun q => q hnz), bnd_e (show F_RideLawsModel_bad_192 ξ3 1 = (_, _) from rfl)] at g6
      cases g6
      rw [if_neg (show ¬ ¬ (0 : Int) = 0 from fun q => q rfl)] at e2
      cases e1
      cases e2
      exact Or.inr ⟨rfl, rfl, c6, rfl, m4.2.2.2.2.1⟩
    · rw [if_pos c5, m7 3] at e2
      cases e1
      cases e2
      have kd := m8
      have x95 : ∀ k : Nat, ¬ k = 3 → hf_up ξ3 195 3 (χ 195 3 + 1) 195 k = χ 195 k := fun k q0 => (hf_up_ne (fun w => q0 w.2)).trans (m7 k)
      have x97 : ∀ k, hf_up ξ3 195 3 (χ 195 3 + 1) 197 k = ξ3 197 k := fun k => hf_up_ne (fun w => absurd w.1 (by decide))
      have x0 : hf_up ξ3 195 3 (χ 195 3 + 1) 195 3 = χ 195 3 + 1 := hf_up_eq
      refine Or.inl (Or.inl ⟨rfl, rfl, ⟨?_, ?_, ?_, ?_, ?_, ?_, ?_, ?_, ?_, ?_⟩⟩)
      · exact rp_f m4 kc.1 km.1 (fun _ _ => rfl) (fun j hj => hf_up_ne (fun q => absurd q.1 (by decide))) (fun _ => rfl) (fun j => hf_up_ne (fun q => absurd q.1 (by decide))) (fun _ => rfl) (fun j => hf_up_ne (fun q => absurd q.1 (by decide)))
      · unfold CTR
        rw [x0, x95 0 (by omega), x95 1 (by omega), x95 2 (by omega), x95 4 (by omega)]
        exact ⟨(kd 32 0 (by decide)).trans c0.1, (kd 32 1 (by decide)).trans c0.2.1, (kd 32 2 (by decide)).trans c0.2.2.1, rfl, (kd 32 4 (by decide)).trans c0.2.2.2.2⟩
      · have y : ∀ k : Nat, ¬ k = (24 + χ 195 3).toNat → (hf_up (hf_up ψ1 33 (24 + χ 195 3).toNat z1) 32 3 (χ 195 3 + 1)) 33 k = φ 33 k := fun k hk => (show hf_up ψ1 33 (24 + χ 195 3).toNat z1 33 k = φ 33 k from (hf_up_ne (fun w => hk w.2)).trans (kd 33 k (by decide)))
        have y1 : (hf_up (hf_up ψ1 33 (24 + χ 195 3).toNat z1) 32 3 (χ 195 3 + 1)) 33 (24 + (χ 195 3).toNat) = z1 := by
          rw [show 24 + (χ 195 3).toNat = (24 + χ 195 3).toNat by omega]
          exact (show hf_up ψ1 33 (24 + χ 195 3).toNat z1 33 (24 + χ 195 3).toNat = z1 from hf_up_eq)
        have w97 : ∀ k : Nat, ¬ k = (52 + χ 195 3).toNat → hf_up ξ3 195 3 (χ 195 3 + 1) 197 k = χ 197 k := fun k hk => (x97 k).trans (m6 k hk)
        refine ⟨nmr_g d2.1 (x95 0 (by omega)) (fun i hi => y _ (by omega)) (fun i hi => w97 _ (by omega)), nmr_g d2.2.1 (x95 1 (by omega)) (fun i hi => y _ (by omega)) (fun i hi => w97 _ (by omega)), nmr_g d2.2.2.1 (x95 2 (by omega)) (fun i hi => y _ (by omega)) (fun i hi => w97 _ (by omega)), nmr_a d2.2.2.2.1 (by omega) x0 (fun i hi => y _ (by omega)) (fun i hi => w97 _ (by omega)) m3 y1 ?_, ?_⟩
        · rw [x97, show 52 + (χ 195 3).toNat = (52 + χ 195 3).toNat by omega]; exact m5
        · exact nmr_g d2.2.2.2.2 (x95 4 (by omega)) (fun i hi => y _ (by omega)) (fun i hi => w97 _ (by omega))
      · exact rgr_f d3 (fun k => kd 34 k (by decide)) (fun k => kd 35 k (by decide)) (fun j hj => x95 j (by omega)) (by omega)
      · exact ser_f d4 (fun k => kd 36 k (by decide)) (fun k => kd 37 k (by decide)) (fun k => kd 38 k (by decide)) (fun k => kd 44 k (by decide)) (fun j hj => x95 j (by omega)) (by omega)
      · intro q hq
        obtain ⟨q1, q2, q3, q4, q5⟩ := d5 q hq
        have hl := lng_b h.1.1.2 q hq
        rw [x95 (27 + q) (by omega), x95 (33 + q) (by omega), x95 1 (by omega), x95 2 (by omega), x0]
        refine ⟨(kd 46 q (by decide)).trans q1, (kd 47 q (by decide)).trans q2, fun w => q3 (by omega), q4, fun k hk => ?_⟩
        rw [x95 (39 + 6 * q + k) (by omega)]
        exact ⟨(kd 48 _ (by decide)).trans (q5 k hk).1, (q5 k hk).2⟩
      · exact str_f d6 (fun k => kd 45 k (by decide)) (fun j hj => x95 j (by omega))
      · exact lwr_f d7 (fun k => kd 39 k (by decide)) (fun k => kd 40 k (by decide)) (fun j hj => x95 j (by omega)) (by rw [x95 2 (by omega)]; omega) (by omega)
      · exact lor_f d8 (fun k => kd 42 k (by decide)) (fun j hj => x95 j (by omega)) (by omega)
      · exact clr_f d9 (fun k => kd 41 k (by decide)) (fun j hj => x95 j (by omega))
theorem says_rel {φ χ ψ ξ : hf_F} {r s : Int} (h : DRP φ χ) (e1 : F_RideText_readSays_182 φ = (r, ψ)) (e2 : F_RideLawsModel_readSays_192 χ = (s, ξ)) : LR r s ψ ξ := by
  have kc := K_F_RideText_readSays_182 h.1.1.1 e1
  have km := K_F_RideLawsModel_readSays_192 h.1.1.2 e2
  unfold F_RideText_readSays_182 at e1
  unfold F_RideLawsModel_readSays_192 at e2
  have b := ctb h.1.1.2
  unfold CTB at b
  rw [bnv_e rfl] at e1 e2
  have h1 := drp_adv h rfl rfl
  generalize F_Reader_advance_1 φ = ψ1 at e1 h1
  generalize F_RideLawsModel_next_192 χ = ξ1 at e2 h1
  obtain ⟨h1, f1, f2⟩ := h1
  have kA : ∀ k, ξ1 195 k = χ 195 k := fun k => fr_at f2 195 (by decide) k
  obtain ⟨d1, d2, d3, d4, d5, d6, d7, d8, d9⟩ := h1.2
  have c0 := d1
  unfold CTR at c0
  obtain ⟨z2, ψ2, h2⟩ : ∃ a b, F_Reader_peekNamed_1_31_k2_3 ψ1 = (a, b) := ⟨_, _, rfl⟩
  obtain ⟨y2, ξ2, g2⟩ : ∃ a b, F_RideLawsModel_looksAt_192 ξ1 52 (ξ1 195 3) = (a, b) := ⟨_, _, rfl⟩
  rw [bnd_e h2] at e1
  rw [bnd_e g2] at e2
  have b1 := ctb h1.1.1.2
  unfold CTB at b1
  rcases pn_31_3 h1.1 c0.2.2.2.1 (by omega) d2.2.2.2.1 h2 g2 with ⟨t1, t2, t3, t4, t5⟩ | ⟨t1, t2, t3⟩
  · rw [if_pos (show ¬ z2 = -1 by omega), t4, bnp_e rfl] at e1
    rw [if_pos (show ¬ y2 = 0 by omega)] at e2
    have r2 : RP ψ1 ξ2 := by rw [t5]; exact rp_got h1.1 (by omega) (by omega)
    have w95 : ∀ k, ξ2 195 k = ξ1 195 k := fun k => by rw [t5, hf_up_ne (fun q => absurd q.1 (by decide))]
    have w97 : ∀ k, ξ2 197 k = ξ1 197 k := fun k => by rw [t5, hf_up_ne (fun q => absurd q.1 (by decide))]
    have w18 : ξ2 192 18 = z2 := by rw [t5, hf_up_eq]
    rw [w18, show (33 + z2).toNat = 33 + z2.toNat by omega, w95] at e2
    obtain ⟨p1, p2, p3, p4, p5⟩ := d5 z2.toNat (by omega)
    have hl := lng_b h1.1.1.2 z2.toNat (by omega)
    have hl0 := iv_ar (a := 195) (s := 33) (t := 39) (lo := 0) (u := 6) (z := 33 + z2) h1.1.1.2 (by decide +kernel) (by omega) (by omega)
    rw [show (33 + z2).toNat = 33 + z2.toNat by omega] at hl0
    by_cases c1 : ψ1 47 z2.toNat < 6
    · rw [if_pos (show F_State_whyNotLearn_43 ψ1 z2 = 0 by unfold F_State_whyNotLearn_43; rw [if_pos c1]), bnv_e rfl] at e1
      rw [if_pos (show ¬ ξ1 195 (33 + z2.toNat) = 6 by omega), bnv_e rfl] at e2
      have ra := rp_adv r2 rfl rfl
      have kd3 : ∀ a k, (32 ≤ a ∧ a ≤ 48 ∧ ¬ a = 43) → F_Reader_advance_1 ψ1 a k = ψ1 a k := fun a k q => fr_hi ra.2.1 (by decide) (obl_d q) (by omega) k
      have y95 : ∀ k : Nat, F_RideLawsModel_next_192 ξ2 195 k = ξ1 195 k := fun k => (fr_at ra.2.2 195 (by decide) k).trans (w95 k)
      have y97 : ∀ k : Nat, F_RideLawsModel_next_192 ξ2 197 k = ξ1 197 k := fun k => (fr_at ra.2.2 197 (by decide) k).trans (w97 k)
      have ra1 := ra.1
      generalize F_RideLawsModel_next_192 ξ2 = ξ6 at e2 ra1 y95 y97
      generalize F_Reader_advance_1 ψ1 = ψ6 at e1 ra1 kd3
      obtain ⟨z7, ψ7, h7⟩ : ∃ a b, F_Reader_peekNamed_1_31_k2_2 ψ6 = (a, b) := ⟨_, _, rfl⟩
      obtain ⟨y7, ξ7, g7⟩ : ∃ a b, F_RideLawsModel_takesName_192 ξ6 44 (ξ6 195 2) = (a, b) := ⟨_, _, rfl⟩
      rw [bnd_e h7] at e1
      rw [bnd_e g7] at e2
      have q32 : ψ6 32 2 = ξ6 195 2 := by rw [kd3 32 2 (by decide), y95]; exact c0.2.2.1
      rcases tn_31_2 ra1 q32 (by rw [q32, y95]; omega) (nmr_f d2.2.2.1 (y95 2) (fun k => kd3 33 k (by decide)) y97) h7 g7 with ⟨u1, u2, u3, u4, u5⟩ | ⟨u1, u2, u3⟩
      · rw [y95] at u3
        rw [if_pos (show ¬ z7 = -1 by omega), bnv_e rfl, bnv_e rfl, u4] at e1
        rw [if_pos (show ¬ y7 = 0 by omega)] at e2
        obtain ⟨r1, r2', r3, r4, r5⟩ := rp_gadv (v := z7) ra1 (by omega) (by omega)
        rw [← u5] at r1 r3 r4 r5
        have kd : ∀ a k, (32 ≤ a ∧ a ≤ 48 ∧ ¬ a = 43) → F_Reader_advance_1 ψ6 a k = ψ1 a k := fun a k q => (r2' a k q).trans (kd3 a k q)
        generalize F_Reader_advance_1 ψ6 = ψ9 at e1 r1 kd
        have v95 : ∀ k, ξ7 195 k = ξ1 195 k := fun k => (r4 k).trans (y95 k)
        have v97 : ∀ k, ξ7 197 k = ξ1 197 k := fun k => (r5 k).trans (y97 k)
        unfold F_State_addWord_43 at e1
        have k47 : ψ9 47 z2.toNat = ξ1 195 (33 + z2.toNat) := (kd 47 _ (by decide)).trans p2
        rw [k47] at e1
        have eM : hf_up ξ7 195 (39 + 6 * z2 + ξ1 195 (33 + z2.toNat)).toNat (ξ7 192 18) 195 (33 + z2.toNat) = ξ1 195 (33 + z2.toNat) := by rw [hf_up_ne (fun q => by omega), v95]
        rw [r3] at e2 eM
        rw [eM] at e2
        cases e1
        cases e2
        have x95 : ∀ k : Nat, ¬ k = 33 + z2.toNat → ¬ k = (39 + 6 * z2 + ξ1 195 (33 + z2.toNat)).toNat → hf_up (hf_up ξ7 195 (39 + 6 * z2 + ξ1 195 (33 + z2.toNat)).toNat z7) 195 (33 + z2.toNat) (ξ1 195 (33 + z2.toNat) + 1) 195 k = ξ1 195 k := fun k q0 q1 => by
          rw [hf_up_ne (fun w => q0 w.2), hf_up_ne (fun w => q1 w.2), v95]
        have x97 : ∀ k, hf_up (hf_up ξ7 195 (39 + 6 * z2 + ξ1 195 (33 + z2.toNat)).toNat z7) 195 (33 + z2.toNat) (ξ1 195 (33 + z2.toNat) + 1) 197 k = ξ1 197 k := fun k => (show ξ7 197 k = _ from v97 k)
        have x33 : hf_up (hf_up ξ7 195 (39 + 6 * z2 + ξ1 195 (33 + z2.toNat)).toNat z7) 195 (33 + z2.toNat) (ξ1 195 (33 + z2.toNat) + 1) 195 (33 + z2.toNat) = ξ1 195 (33 + z2.toNat) + 1 := hf_up_eq
        have x39 : hf_up (hf_up ξ7 195 (39 + 6 * z2 + ξ1 195 (33 + z2.toNat)).toNat z7) 195 (33 + z2.toNat) (ξ1 195 (33 + z2.toNat) + 1) 195 (39 + 6 * z2 + ξ1 195 (33 + z2.toNat)).toNat = z7 := by
          rw [hf_up_ne (fun w => by omega), hf_up_eq]
        refine Or.inl ⟨rfl, rfl, ⟨?_, ?_, ?_, ?_, ?_, ?_, ?_, ?_, ?_, ?_⟩⟩
        · exact rp_f r1 kc.1 km.1 (fun _ _ => rfl) (fun _ _ => rfl) (fun _ => rfl) (fun _ => rfl) (fun _ => rfl) (fun _ => rfl)
        · exact ctr_f d1 (fun k _ => (show ψ9 32 k = ψ1 32 k from kd 32 k (by decide))) (fun j hj => x95 j (by omega) (by omega))
        · exact nar_f d2 (fun k => (show ψ9 33 k = ψ1 33 k from kd 33 k (by decide))) x97 (fun j hj => x95 j (by omega) (by omega))
        · exact rgr_f d3 (fun k => kd 34 k (by decide)) (fun k => kd 35 k (by decide)) (fun j hj => x95 j (by omega) (by omega)) (by omega)
        · exact ser_f d4 (fun k => kd 36 k (by decide)) (fun k => kd 37 k (by decide)) (fun k => kd 38 k (by decide)) (fun k => kd 44 k (by decide)) (fun j hj => x95 j (by omega) (by omega)) (by omega)
        · intro q hq
          obtain ⟨q1, q2, q3, q4, q5⟩ := d5 q hq
          have hlq := lng_b h1.1.1.2 q hq
          rw [x95 (27 + q) (by omega) (by omega), x95 1 (by omega) (by omega), x95 2 (by omega) (by omega), x95 3 (by omega) (by omega)]
          by_cases hc : q = z2.toNat
          · rw [hc] at q1 q2 q3 q4 q5 ⊢
            rw [x33]
            refine ⟨(kd 46 _ (by decide)).trans q1, hf_up_eq, fun w => by omega, q4, fun k hk => ?_⟩
            by_cases hk2 : (k : Int) < ξ1 195 (33 + z2.toNat)
            · rw [x95 (39 + 6 * z2.toNat + k) (by omega) (by omega)]
              have := q5 k hk2
              exact ⟨(show hf_up ψ9 48 (z2 * 6 + ξ1 195 (33 + z2.toNat)).toNat z7 48 (6 * z2.toNat + k) = _ from (hf_up_ne (fun w => by omega)).trans ((kd 48 _ (by decide)).trans this.1)), this.2⟩
            · rw [show 39 + 6 * z2.toNat + k = (39 + 6 * z2 + ξ1 195 (33 + z2.toNat)).toNat by omega, x39]
              refine ⟨?_, u3⟩
              rw [show 6 * z2.toNat + k = (z2 * 6 + ξ1 195 (33 + z2.toNat)).toNat by omega]
              exact (show hf_up ψ9 48 (z2 * 6 + ξ1 195 (33 + z2.toNat)).toNat z7 48 (z2 * 6 + ξ1 195 (33 + z2.toNat)).toNat = _ from hf_up_eq)
          · rw [x95 (33 + q) (by omega) (by omega)]
            refine ⟨(kd 46 q (by decide)).trans q1, (hf_up_ne (fun w => hc w.2)).trans ((kd 47 q (by decide)).trans q2), q3, q4, fun k hk => ?_⟩
            rw [x95 (39 + 6 * q + k) (by omega) (by omega)]
            have := q5 k hk
            exact ⟨(show hf_up ψ9 48 (z2 * 6 + ξ1 195 (33 + z2.toNat)).toNat z7 48 (6 * q + k) = _ from (hf_up_ne (fun w => by omega)).trans ((kd 48 _ (by decide)).trans this.1)), this.2⟩
        · exact str_f d6 (fun k => kd 45 k (by decide)) (fun j hj => x95 j (by omega) (by omega))
        · exact lwr_f d7 (fun k => kd 39 k (by decide)) (fun k => kd 40 k (by decide)) (fun j hj => x95 j (by omega) (by omega)) (by rw [x95 2 (by omega) (by omega)]; omega) (by omega)
        · exact lor_f d8 (fun k => kd 42 k (by decide)) (fun j hj => x95 j (by omega) (by omega)) (by omega)
        · exact clr_f d9 (fun k => kd 41 k (by decide)) (fun j hj => x95 j (by omega) (by omega))
      · rw [if_neg (fun q => q u2)] at e1
        rw [if_neg (fun q => q u1)] at e2
        cases e1
        cases e2
        exact Or.inr ⟨rfl, rfl, u3⟩
    · rw [if_neg (show ¬ F_State_whyNotLearn_43 ψ1 z2 = 0 by unfold F_State_whyNotLearn_43; rw [if_neg c1]; decide), bnd_e (show F_Reader_refuse_1 ψ1 4 = (_, _) from rfl)] at e1
      rw [if_neg (show ¬ ¬ ξ1 195 (33 + z2.toNat) = 6 by omega), bnd_e (show F_RideLawsModel_bad_192 ξ2 4 = (_, _) from rfl)] at e2
      have := rf_bad r2 (show F_Reader_refuse_1 ψ1 4 = (_, _) from rfl) (show F_RideLawsModel_bad_192 ξ2 4 = (_, _) from rfl)
      cases e1
      cases e2
      exact Or.inr ⟨rfl, rfl, this.2.2⟩
  · rw [if_neg (fun q => q t2)] at e1
    rw [if_neg (fun q => q t1)] at e2
    cases e1
    cases e2
    exact Or.inr ⟨rfl, rfl, t3⟩
