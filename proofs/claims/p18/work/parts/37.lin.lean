/-! the lines of a RIDE: ring, word -/
theorem ser_g {φ χ φ' χ' : hf_F} (h : SER φ χ) (h1 : ∀ k, φ' 36 k = φ 36 k) (h2 : ∀ k, φ' 37 k = φ 37 k) (h3 : ∀ k, φ' 38 k = φ 38 k) (h4 : ∀ k, φ' 44 k = φ 44 k) (h5 : ∀ j, (j = 1 ∨ (11 ≤ j ∧ j < 27)) → χ' 195 j = χ 195 j)
    (h6 : ∀ g : Nat, (g : Int) < χ 195 0 → χ' 195 (5 + g) = χ 195 (5 + g) ∧ χ' 195 (8 + g) = χ 195 (8 + g)) (h7 : χ 195 0 ≤ χ' 195 0) (h0 : χ 195 1 ≤ 8) : SER φ' χ' := by
  intro i hi
  rw [h5 1 (by omega)] at hi
  obtain ⟨q1, q2, g, q3, q4, q5, q6, q7, q8⟩ := h i hi
  rw [h1, h2, h3, h4, h5 (11 + i) (by omega), h5 (19 + i) (by omega)]
  refine ⟨q1, q2, g, by omega, q4, ?_, ?_, q7, ?_⟩
  · rw [(h6 g q3).1]; exact q5
  · rw [(h6 g q3).1, (h6 g q3).2]; exact q6
  · rw [(h6 g q3).1]; exact q8
theorem ring_rel {φ χ ψ ξ : hf_F} {r s : Int} (h : DRP φ χ) (e1 : F_RideText_readRing_182 φ = (r, ψ)) (e2 : F_RideLawsModel_readRing_192 χ = (s, ξ)) : LR r s ψ ξ := by
  have kc := K_F_RideText_readRing_182 h.1.1.1 e1
  have km := K_F_RideLawsModel_readRing_192 h.1.1.2 e2
  unfold F_RideText_readRing_182 at e1
  unfold F_RideLawsModel_readRing_192 at e2
  have b := ctb h.1.1.2
  unfold CTB at b
  obtain ⟨z1, ψ1, h1⟩ : ∃ a b, F_RideText_readNew_182_k1_0 φ = (a, b) := ⟨_, _, rfl⟩
  rw [bnd_e h1] at e1
  rcases new_0 h h1 with ⟨n1, n2, n3⟩ | ⟨n1, n2⟩
  · rw [n2, if_neg (fun q => q cmp00)] at e1
    rw [if_neg (fun q => q n1), bnd_e (show F_RideLawsModel_bad_192 χ 4 = (_, _) from rfl)] at e2
    cases e1
    cases e2
    exact Or.inr ⟨rfl, rfl, n3⟩
  · rw [if_pos (show ¬ χ 195 0 = 3 by omega), bnv_e rfl] at e2
    obtain ⟨z3, ξ3, g3⟩ : ∃ a b, F_RideLawsModel_fresh_192 (F_RideLawsModel_next_192 χ) (33 + χ 195 0) = (a, b) := ⟨_, _, rfl⟩
    rw [bnd_e g3] at e2
    rcases n2 _ _ _ rfl g3 with ⟨m1, m2, m3⟩ | ⟨m1, m2, m3, m4, m5, m6, m7, m8⟩
    · rw [m1, if_neg (fun q => q cmp00)] at e1
      rw [if_pos m2] at e2
      cases e1
      cases e2
      exact Or.inr ⟨rfl, rfl, m3⟩
    · rw [if_pos (fun q => m1 ((cmp_0 m3).mp q))] at e1
      rw [if_neg (show ¬ z3 = 0 by omega)] at e2
      obtain ⟨z4, ψ4, h4⟩ : ∃ a b, F_Reader_peekNumber_1 ψ1 2 30 = (a, b) := ⟨_, _, rfl⟩
      obtain ⟨z6, ξ6, g6⟩ : ∃ a b, F_RideLawsModel_puts_192_k2_2_k3_30 ξ3 (5 + χ 195 0) = (a, b) := ⟨_, _, rfl⟩
      rw [bnd_e h4] at e1
      rw [bnd_e g6] at e2
      rcases put_a m4 (by omega) (by omega) h4 g6 with ⟨a1, a2, a3⟩ | ⟨a1, a2, a3, a4, a5, a6, a7, a8, a9⟩
      · rw [if_neg (fun q => q a1)] at e1
        rw [if_pos a2] at e2
        cases e1
        cases e2
        exact Or.inr ⟨rfl, rfl, a3⟩
      · rw [if_pos (show ¬ z4 = -1 by omega), bnv_e rfl, a3] at e1
        rw [if_neg (show ¬ z6 = 0 by omega)] at e2
        obtain ⟨z7, ψ7, h7⟩ : ∃ a b, F_Reader_peekNumber_1 (F_Reader_advance_1 ψ1) 1 9 = (a, b) := ⟨_, _, rfl⟩
        obtain ⟨z8, ξ8, g8⟩ : ∃ a b, F_RideLawsModel_puts_192_k2_1_k3_9 ξ6 (8 + χ 195 0) = (a, b) := ⟨_, _, rfl⟩
        rw [bnd_e h7] at e1
        rw [bnd_e g8] at e2
        rcases put_b a5 (by omega) (by omega) h7 g8 with ⟨b1, b2, b3⟩ | ⟨b1, b2, b3, b4, b5, b6, b7, b8, b9⟩
        · rw [if_neg (fun q => q b1)] at e1
          rw [if_neg (fun q => q b2)] at e2
          cases e1
          cases e2
          exact Or.inr ⟨rfl, rfl, b3⟩
        · rw [if_pos (show ¬ z7 = -1 by omega), bnv_e rfl, bnv_e rfl, b3] at e1
          rw [if_pos (show ¬ z8 = 0 by omega)] at e2
          have kd : ∀ a k, (32 ≤ a ∧ a ≤ 48 ∧ ¬ a = 43) → F_Reader_advance_1 (F_Reader_advance_1 ψ1) a k = φ a k := fun a k q => (b9 a k q).trans ((a9 a k q).trans (m8 a k q))
          generalize F_Reader_advance_1 (F_Reader_advance_1 ψ1) = ψ8 at e1 b5 kd
          unfold F_Plan_addRing_31 F_Plan_addNamed_31_k1_0 at e1
          rw [bnd_e rfl] at e1
          obtain ⟨d1, d2, d3, d4, d5, d6, d7, d8, d9⟩ := h.2
          have c0 := d1
          unfold CTR at c0
          have k0 : ψ8 32 0 = χ 195 0 := (kd 32 0 (by decide)).trans c0.1
          have l0 : ξ8 195 0 = χ 195 0 := (b7 0 (by omega)).trans ((a7 0 (by omega)).trans (m7 0))
          rw [k0] at e1
          rw [l0] at e2
          cases e1
          cases e2
          have n97 : ∀ k, ξ8 197 k = ξ3 197 k := fun k => (b8 k).trans (a8 k)
          have n95 : ∀ k : Nat, ¬ k = (8 + χ 195 0).toNat → ¬ k = (5 + χ 195 0).toNat → ξ8 195 k = χ 195 k := fun k q1 q2 => (b7 k q1).trans ((a7 k q2).trans (m7 k))
          have v5 : ξ8 195 (5 + χ 195 0).toNat = z4 := (b7 _ (by omega)).trans a6
          have x95 : ∀ k : Nat, ¬ k = 0 → ¬ k = (8 + χ 195 0).toNat → ¬ k = (5 + χ 195 0).toNat → hf_up ξ8 195 0 (χ 195 0 + 1) 195 k = χ 195 k := fun k q0 q1 q2 => (hf_up_ne (fun w => q0 w.2)).trans (n95 k q1 q2)
          have x97 : ∀ k, hf_up ξ8 195 0 (χ 195 0 + 1) 197 k = ξ3 197 k := fun k => (hf_up_ne (fun w => absurd w.1 (by decide))).trans (n97 k)
          have x0 : hf_up ξ8 195 0 (χ 195 0 + 1) 195 0 = χ 195 0 + 1 := hf_up_eq
          refine Or.inl ⟨rfl, rfl, ⟨?_, ?_, ?_, ?_, ?_, ?_, ?_, ?_, ?_, ?_⟩⟩
          · exact rp_f b5 kc.1 km.1 (fun _ _ => rfl) (fun j hj => hf_up_ne (fun q => absurd q.1 (by decide))) (fun _ => rfl) (fun j => hf_up_ne (fun q => absurd q.1 (by decide))) (fun _ => rfl) (fun j => hf_up_ne (fun q => absurd q.1 (by decide)))
          · unfold CTR
            rw [x0, x95 1 (by omega) (by omega) (by omega), x95 2 (by omega) (by omega) (by omega), x95 3 (by omega) (by omega) (by omega), x95 4 (by omega) (by omega) (by omega)]
            exact ⟨rfl, (kd 32 1 (by decide)).trans c0.2.1, (kd 32 2 (by decide)).trans c0.2.2.1, (kd 32 3 (by decide)).trans c0.2.2.2.1, (kd 32 4 (by decide)).trans c0.2.2.2.2⟩
          · have y : ∀ k : Nat, ¬ k = (0 + χ 195 0).toNat → (hf_up (hf_up (hf_up (hf_up ψ8 33 (0 + χ 195 0).toNat z1) 32 0 (χ 195 0 + 1)) 34 (χ 195 0).toNat z4) 35 (χ 195 0).toNat z7) 33 k = φ 33 k := fun k hk => (show hf_up ψ8 33 (0 + χ 195 0).toNat z1 33 k = φ 33 k from (hf_up_ne (fun w => hk w.2)).trans (kd 33 k (by decide)))
            have y1 : (hf_up (hf_up (hf_up (hf_up ψ8 33 (0 + χ 195 0).toNat z1) 32 0 (χ 195 0 + 1)) 34 (χ 195 0).toNat z4) 35 (χ 195 0).toNat z7) 33 (0 + (χ 195 0).toNat) = z1 := by
              rw [show 0 + (χ 195 0).toNat = (0 + χ 195 0).toNat by omega]
              exact (show hf_up ψ8 33 (0 + χ 195 0).toNat z1 33 (0 + χ 195 0).toNat = z1 from hf_up_eq)
            have w97 : ∀ k : Nat, ¬ k = (33 + χ 195 0).toNat → hf_up ξ8 195 0 (χ 195 0 + 1) 197 k = χ 197 k := fun k hk => (x97 k).trans (m6 k hk)
            refine ⟨nmr_a d2.1 (by omega) x0 (fun i hi => y _ (by omega)) (fun i hi => w97 _ (by omega)) m3 y1 ?_, ?_, ?_, ?_, ?_⟩
            · rw [x97, show 33 + (χ 195 0).toNat = (33 + χ 195 0).toNat by omega]; exact m5
            · exact nmr_g d2.2.1 (x95 1 (by omega) (by omega) (by omega)) (fun i hi => y _ (by omega)) (fun i hi => w97 _ (by omega))
            · exact nmr_g d2.2.2.1 (x95 2 (by omega) (by omega) (by omega)) (fun i hi => y _ (by omega)) (fun i hi => w97 _ (by omega))
            · exact nmr_g d2.2.2.2.1 (x95 3 (by omega) (by omega) (by omega)) (fun i hi => y _ (by omega)) (fun i hi => w97 _ (by omega))
            · exact nmr_g d2.2.2.2.2 (x95 4 (by omega) (by omega) (by omega)) (fun i hi => y _ (by omega)) (fun i hi => w97 _ (by omega))
          · intro i hi
            rw [x0] at hi
            by_cases hc : (i : Int) < χ 195 0
            · rw [x95 (5 + i) (by omega) (by omega) (by omega), x95 (8 + i) (by omega) (by omega) (by omega)]
              have := d3 i hc
              refine ⟨?_, ?_⟩
              · exact (show hf_up ψ8 34 (χ 195 0).toNat z4 34 i = χ 195 (5 + i) from (hf_up_ne (fun w => by omega)).trans ((kd 34 i (by decide)).trans this.1))
              · exact (show hf_up ψ8 35 (χ 195 0).toNat z7 35 i = χ 195 (8 + i) from (hf_up_ne (fun w => by omega)).trans ((kd 35 i (by decide)).trans this.2))
            · have hi2 : i = (χ 195 0).toNat := by omega
              have u5 : hf_up ξ8 195 0 (χ 195 0 + 1) 195 (5 + i) = z4 := by
                rw [show 5 + i = (5 + χ 195 0).toNat by omega]
                exact (hf_up_ne (fun w => by omega)).trans v5
              have u8 : hf_up ξ8 195 0 (χ 195 0 + 1) 195 (8 + i) = z7 := by
                rw [show 8 + i = (8 + χ 195 0).toNat by omega]
                exact (hf_up_ne (fun w => by omega)).trans b6
              rw [u5, u8, hi2]
              exact ⟨(show hf_up ψ8 34 (χ 195 0).toNat z4 34 (χ 195 0).toNat = z4 from hf_up_eq), (show hf_up ψ8 35 (χ 195 0).toNat z7 35 (χ 195 0).toNat = z7 from hf_up_eq)⟩
          · exact ser_g d4 (fun k => kd 36 k (by decide)) (fun k => kd 37 k (by decide)) (fun k => kd 38 k (by decide)) (fun k => kd 44 k (by decide)) (fun j hj => x95 j (by omega) (by omega) (by omega)) (fun g hg => ⟨x95 _ (by omega) (by omega) (by omega), x95 _ (by omega) (by omega) (by omega)⟩) (by rw [x0]; omega) (by omega)
          · exact rdr_f d5 (fun k => kd 46 k (by decide)) (fun k => kd 47 k (by decide)) (fun k => kd 48 k (by decide)) (fun j hj => x95 j (by omega) (by omega) (by omega)) (by rw [x95 1 (by omega) (by omega) (by omega)]; omega) (by rw [x95 2 (by omega) (by omega) (by omega)]; omega) (lng_b h.1.1.2)
          · exact str_f d6 (fun k => kd 45 k (by decide)) (fun j hj => x95 j (by omega) (by omega) (by omega))
          · exact lwr_f d7 (fun k => kd 39 k (by decide)) (fun k => kd 40 k (by decide)) (fun j hj => x95 j (by omega) (by omega) (by omega)) (by rw [x95 2 (by omega) (by omega) (by omega)]; omega) (by omega)
          · exact lor_f d8 (fun k => kd 42 k (by decide)) (fun j hj => x95 j (by omega) (by omega) (by omega)) (by omega)
          · exact clr_f d9 (fun k => kd 41 k (by decide)) (fun j hj => x95 j (by omega) (by omega) (by omega))
theorem word_rel {φ χ ψ ξ : hf_F} {r s : Int} (h : DRP φ χ) (e1 : F_RideText_readWord_182 φ = (r, ψ)) (e2 : F_RideLawsModel_readWord_192 χ = (s, ξ)) : LR r s ψ ξ := by
  have kc := K_F_RideText_readWord_182 h.1.1.1 e1
  have km := K_F_RideLawsModel_readWord_192 h.1.1.2 e2
  unfold F_RideText_readWord_182 at e1
  unfold F_RideLawsModel_readWord_192 at e2
  have b := ctb h.1.1.2
  unfold CTB at b
  obtain ⟨z1, ψ1, h1⟩ : ∃ a b, F_RideText_readNew_182_k1_2 φ = (a, b) := ⟨_, _, rfl⟩
  rw [bnd_e h1] at e1
  rcases new_2 h h1 with ⟨n1, n2, n3⟩ | ⟨n1, n2⟩
  · rw [n2, if_neg (fun q => q cmp00)] at e1
    rw [if_neg (fun q => q n1), bnd_e (show F_RideLawsModel_bad_192 χ 4 = (_, _) from rfl)] at e2
    cases e1
    cases e2
    exact Or.inr ⟨rfl, rfl, n3⟩
  · rw [if_pos (show ¬ χ 195 2 = 8 by omega), bnv_e rfl] at e2
    obtain ⟨z3, ξ3, g3⟩ : ∃ a b, F_RideLawsModel_fresh_192 (F_RideLawsModel_next_192 χ) (44 + χ 195 2) = (a, b) := ⟨_, _, rfl⟩
    rw [bnd_e g3] at e2
    rcases n2 _ _ _ rfl g3 with ⟨m1, m2, m3⟩ | ⟨m1, m2, m3, m4, m5, m6, m7, m8⟩
    · rw [m1, if_neg (fun q => q cmp00)] at e1
      rw [if_neg (fun q => q m2)] at e2
      cases e1
      cases e2
      exact Or.inr ⟨rfl, rfl, m3⟩
    · rw [if_pos (fun q => m1 ((cmp_0 m3).mp q))] at e1
      rw [if_pos (show ¬ z3 = 0 by omega)] at e2
      unfold F_Plan_addNamed_31_k1_2 at e1
      rw [bnd_e rfl] at e1
      obtain ⟨d1, d2, d3, d4, d5, d6, d7, d8, d9⟩ := h.2
      have c0 := d1
      unfold CTR at c0
      have kd := m8
      have k0 : ψ1 32 2 = χ 195 2 := (kd 32 2 (by decide)).trans c0.2.2.1
      rw [k0] at e1
      rw [m7 2] at e2
      cases e1
      cases e2
      have x95 : ∀ k : Nat, ¬ k = 2 → hf_up ξ3 195 2 (χ 195 2 + 1) 195 k = χ 195 k := fun k q0 => (hf_up_ne (fun w => q0 w.2)).trans (m7 k)
      have x97 : ∀ k, hf_up ξ3 195 2 (χ 195 2 + 1) 197 k = ξ3 197 k := fun k => hf_up_ne (fun w => absurd w.1 (by decide))
      have x0 : hf_up ξ3 195 2 (χ 195 2 + 1) 195 2 = χ 195 2 + 1 := hf_up_eq
      refine Or.inl ⟨rfl, rfl, ⟨?_, ?_, ?_, ?_, ?_, ?_, ?_, ?_, ?_, ?_⟩⟩
      · exact rp_f m4 kc.1 km.1 (fun _ _ => rfl) (fun j hj => hf_up_ne (fun q => absurd q.1 (by decide))) (fun _ => rfl) (fun j => hf_up_ne (fun q => absurd q.1 (by decide))) (fun _ => rfl) (fun j => hf_up_ne (fun q => absurd q.1 (by decide)))
      · unfold CTR
        rw [x0, x95 0 (by omega), x95 1 (by omega), x95 3 (by omega), x95 4 (by omega)]
        exact ⟨(kd 32 0 (by decide)).trans c0.1, (kd 32 1 (by decide)).trans c0.2.1, rfl, (kd 32 3 (by decide)).trans c0.2.2.2.1, (kd 32 4 (by decide)).trans c0.2.2.2.2⟩
      · have y : ∀ k : Nat, ¬ k = (16 + χ 195 2).toNat → (hf_up (hf_up ψ1 33 (16 + χ 195 2).toNat z1) 32 2 (χ 195 2 + 1)) 33 k = φ 33 k := fun k hk => (show hf_up ψ1 33 (16 + χ 195 2).toNat z1 33 k = φ 33 k from (hf_up_ne (fun w => hk w.2)).trans (kd 33 k (by decide)))
        have y1 : (hf_up (hf_up ψ1 33 (16 + χ 195 2).toNat z1) 32 2 (χ 195 2 + 1)) 33 (16 + (χ 195 2).toNat) = z1 := by
          rw [show 16 + (χ 195 2).toNat = (16 + χ 195 2).toNat by omega]
          exact (show hf_up ψ1 33 (16 + χ 195 2).toNat z1 33 (16 + χ 195 2).toNat = z1 from hf_up_eq)
        have w97 : ∀ k : Nat, ¬ k = (44 + χ 195 2).toNat → hf_up ξ3 195 2 (χ 195 2 + 1) 197 k = χ 197 k := fun k hk => (x97 k).trans (m6 k hk)
        refine ⟨nmr_g d2.1 (x95 0 (by omega)) (fun i hi => y _ (by omega)) (fun i hi => w97 _ (by omega)), nmr_g d2.2.1 (x95 1 (by omega)) (fun i hi => y _ (by omega)) (fun i hi => w97 _ (by omega)), nmr_a d2.2.2.1 (by omega) x0 (fun i hi => y _ (by omega)) (fun i hi => w97 _ (by omega)) m3 y1 ?_, ?_, ?_⟩
        · rw [x97, show 44 + (χ 195 2).toNat = (44 + χ 195 2).toNat by omega]; exact m5
        · exact nmr_g d2.2.2.2.1 (x95 3 (by omega)) (fun i hi => y _ (by omega)) (fun i hi => w97 _ (by omega))
        · exact nmr_g d2.2.2.2.2 (x95 4 (by omega)) (fun i hi => y _ (by omega)) (fun i hi => w97 _ (by omega))
      · exact rgr_f d3 (fun k => kd 34 k (by decide)) (fun k => kd 35 k (by decide)) (fun j hj => x95 j (by omega)) (by omega)
      · exact ser_f d4 (fun k => kd 36 k (by decide)) (fun k => kd 37 k (by decide)) (fun k => kd 38 k (by decide)) (fun k => kd 44 k (by decide)) (fun j hj => x95 j (by omega)) (by omega)
      · exact rdr_f d5 (fun k => kd 46 k (by decide)) (fun k => kd 47 k (by decide)) (fun k => kd 48 k (by decide)) (fun j hj => x95 j (by omega)) (by rw [x95 1 (by omega)]; omega) (by rw [x0]; omega) (lng_b h.1.1.2)
      · exact str_f d6 (fun k => kd 45 k (by decide)) (fun j hj => x95 j (by omega))
      · exact lwr_f d7 (fun k => kd 39 k (by decide)) (fun k => kd 40 k (by decide)) (fun j hj => x95 j (by omega)) (by rw [x0]; omega) (by omega)
      · exact lor_f d8 (fun k => kd 42 k (by decide)) (fun j hj => x95 j (by omega)) (by omega)
      · exact clr_f d9 (fun k => kd 41 k (by decide)) (fun j hj => x95 j (by omega))
