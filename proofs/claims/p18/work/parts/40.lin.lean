/-! the lines of a RIDE: law, clash -/
theorem mlaw_l : ∀ (n : Nat) (χ : hf_F) (l1 l2 l3 : Int), 8 - l3 < n → 0 ≤ l3 → l3 ≤ 8 → l1 ≤ 8 →
    (F_RideLawsModel_readLaw_192_l75 n χ l1 l2 l3 = (1, hf_up (F_RideLawsModel_next_192 (hf_up (hf_up χ 195 (75 + l1).toNat l2) 195 (83 + l1).toNat (χ 192 18))) 195 4 (F_RideLawsModel_next_192 (hf_up (hf_up χ 195 (75 + l1).toNat l2) 195 (83 + l1).toNat (χ 192 18)) 195 4 + 1)) ∧
      ∀ j : Nat, l3 ≤ (j : Int) → (j : Int) < l1 → ¬ (χ 195 (75 + j) = l2 ∧ χ 195 (83 + j) = χ 192 18)) ∨
    (F_RideLawsModel_readLaw_192_l75 n χ l1 l2 l3 = F_RideLawsModel_bad_192 χ 3 ∧ ∃ j : Nat, l3 ≤ (j : Int) ∧ (j : Int) < l1 ∧ χ 195 (75 + j) = l2 ∧ χ 195 (83 + j) = χ 192 18) := by
  intro n
  induction n with
  | zero => intro χ l1 l2 l3 h1 h2 h3; omega
  | succ n ih =>
    intro χ l1 l2 l3 h1 h2 h3 h4
    rw [F_RideLawsModel_readLaw_192_l75_s]
    by_cases c1 : l1 ≤ l3
    · rw [if_pos c1]
      exact Or.inl ⟨rfl, fun j q1 q2 => by omega⟩
    · rw [if_neg c1]
      have hn := ih χ l1 l2 (l3 + 1) (by omega) (by omega) (by omega) h4
      have step : ¬ (χ 195 (75 + l3.toNat) = l2 ∧ χ 195 (83 + l3.toNat) = χ 192 18) → (F_RideLawsModel_readLaw_192_l75 n χ l1 l2 (l3 + 1) = (1, hf_up (F_RideLawsModel_next_192 (hf_up (hf_up χ 195 (75 + l1).toNat l2) 195 (83 + l1).toNat (χ 192 18))) 195 4 (F_RideLawsModel_next_192 (hf_up (hf_up χ 195 (75 + l1).toNat l2) 195 (83 + l1).toNat (χ 192 18)) 195 4 + 1)) ∧
          ∀ j : Nat, l3 ≤ (j : Int) → (j : Int) < l1 → ¬ (χ 195 (75 + j) = l2 ∧ χ 195 (83 + j) = χ 192 18)) ∨
          (F_RideLawsModel_readLaw_192_l75 n χ l1 l2 (l3 + 1) = F_RideLawsModel_bad_192 χ 3 ∧ ∃ j : Nat, l3 ≤ (j : Int) ∧ (j : Int) < l1 ∧ χ 195 (75 + j) = l2 ∧ χ 195 (83 + j) = χ 192 18) := by
        intro hc
        rcases hn with ⟨i1, i2⟩ | ⟨i1, j, i2, i3, i4, i5⟩
        · refine Or.inl ⟨i1, fun j q1 q2 => ?_⟩
          by_cases hj : (j : Int) = l3
          · rw [show j = l3.toNat by omega]; exact hc
          · exact i2 j (by omega) q2
        · exact Or.inr ⟨i1, j, by omega, i3, i4, i5⟩
      rw [show (75 + l3).toNat = 75 + l3.toNat by omega, show (83 + l3).toNat = 83 + l3.toNat by omega]
      by_cases c2 : χ 195 (75 + l3.toNat) = l2
      · rw [if_neg (fun q => q c2)]
        by_cases c3 : χ 195 (83 + l3.toNat) = χ 192 18
        · rw [if_neg (fun q => q c3)]
          exact Or.inr ⟨rfl, l3.toNat, by omega, by omega, c2, c3⟩
        · rw [if_pos c3]
          exact step (fun q => c3 q.2)
      · rw [if_pos c2]
        exact step (fun q => c2 q.1)
theorem law_rel {φ χ ψ ξ : hf_F} {r s : Int} (h : DRP φ χ) (e1 : F_RideText_readLaw_182 φ = (r, ψ)) (e2 : F_RideLawsModel_readLaw_192 χ = (s, ξ)) : LR r s ψ ξ := by
  have kc := K_F_RideText_readLaw_182 h.1.1.1 e1
  have km := K_F_RideLawsModel_readLaw_192 h.1.1.2 e2
  unfold F_RideText_readLaw_182 at e1
  unfold F_RideLawsModel_readLaw_192 at e2
  have b := ctb h.1.1.2
  unfold CTB at b
  obtain ⟨z1, ψ1, h1⟩ : ∃ a b, F_RideText_readNew_182_k1_4 φ = (a, b) := ⟨_, _, rfl⟩
  rw [bnd_e h1] at e1
  rcases new_4 h h1 with ⟨n1, n2, n3⟩ | ⟨n1, n2⟩
  · rw [n2, if_neg (fun q => q cmp00)] at e1
    rw [if_neg (fun q => q n1), bnd_e (show F_RideLawsModel_bad_192 χ 4 = (_, _) from rfl)] at e2
    cases e1
    cases e2
    exact Or.inr ⟨rfl, rfl, n3⟩
  rw [if_pos (show ¬ χ 195 4 = 8 by omega), bnv_e rfl] at e2
  obtain ⟨z3, ξ3, g3⟩ : ∃ a b, F_RideLawsModel_fresh_192 (F_RideLawsModel_next_192 χ) (58 + χ 195 4) = (a, b) := ⟨_, _, rfl⟩
  rw [bnd_e g3] at e2
  rcases n2 _ _ _ rfl g3 with ⟨m1, m2, m3⟩ | ⟨m1, m2, m3, m4, m5, m6, m7, m8⟩
  · rw [m1, if_neg (fun q => q cmp00)] at e1
    rw [if_pos m2] at e2
    cases e1
    cases e2
    exact Or.inr ⟨rfl, rfl, m3⟩
  rw [if_pos (fun q => m1 ((cmp_0 m3).mp q))] at e1
  rw [if_neg (show ¬ z3 = 0 by omega)] at e2
  obtain ⟨d1, d2, d3, d4, d5, d6, d7, d8, d9⟩ := h.2
  have c0 := d1
  unfold CTR at c0
  obtain ⟨z4, ψ4, h4⟩ : ∃ a b, F_Reader_peekNamed_1_31_k2_2 ψ1 = (a, b) := ⟨_, _, rfl⟩
  obtain ⟨z6, ξ6, g6⟩ : ∃ a b, F_RideLawsModel_takesName_192 ξ3 44 (ξ3 195 2) = (a, b) := ⟨_, _, rfl⟩
  rw [bnd_e h4] at e1
  rw [bnd_e g6] at e2
  have q32 : ψ1 32 2 = ξ3 195 2 := by rw [m8 32 2 (by decide), m7 2]; exact c0.2.2.1
  rcases tn_31_2 m4 q32 (by rw [q32, m7]; omega) (nmr_g d2.2.2.1 (m7 2) (fun i hi => m8 33 _ (by decide)) (fun i hi => m6 _ (by omega))) h4 g6 with ⟨t1, t2, t3, t4, t5⟩ | ⟨t1, t2, t3⟩
  · rw [m7 2] at t3
    rw [if_pos (show ¬ z4 = -1 by omega), bnv_e rfl, t4] at e1
    rw [if_pos (show ¬ z6 = 0 by omega)] at e2
    obtain ⟨r1, r2, r3, r4, r5⟩ := rp_gadv (v := z4) m4 (by omega) (by omega)
    rw [← t5] at r1 r3 r4 r5
    rw [r3] at e2
    have w95 : ∀ k, ξ6 195 k = χ 195 k := fun k => (r4 k).trans (m7 k)
    have kd5 : ∀ a k, (32 ≤ a ∧ a ≤ 48 ∧ ¬ a = 43) → F_Reader_advance_1 ψ1 a k = φ a k := fun a k q => (r2 a k q).trans (m8 a k q)
    have w97 : ∀ k : Nat, ¬ k = (58 + χ 195 4).toNat → ξ6 197 k = χ 197 k := fun k hk => (r5 k).trans (m6 k hk)
    have w97n : ξ6 197 (58 + χ 195 4).toNat = G8 z1 := (r5 _).trans m5
    generalize F_Reader_advance_1 ψ1 = ψ5 at e1 r1 kd5
    obtain ⟨z7, ψ7, h7⟩ : ∃ a b, F_Reader_peekNamed_1_31_k2_2 ψ5 = (a, b) := ⟨_, _, rfl⟩
    obtain ⟨y7, ξ7, g7⟩ : ∃ a b, F_RideLawsModel_looksAt_192 ξ6 44 (ξ6 195 2) = (a, b) := ⟨_, _, rfl⟩
    rw [bnd_e h7] at e1
    rw [bnd_e g7] at e2
    have p32 : ψ5 32 2 = ξ6 195 2 := by rw [kd5 32 2 (by decide), w95 2]; exact c0.2.2.1
    rcases pn_31_2 r1 p32 (by rw [p32, w95]; omega) (nmr_g d2.2.2.1 (w95 2) (fun i hi => kd5 33 _ (by decide)) (fun i hi => w97 _ (by omega))) h7 g7 with ⟨u1, u2, u3, u4, u5⟩ | ⟨u1, u2, u3⟩
    · rw [w95 2] at u3
      rw [if_pos (show ¬ z7 = -1 by omega), u4] at e1
      rw [if_pos (show ¬ y7 = 0 by omega)] at e2
      have v95 : ∀ k, ξ7 195 k = χ 195 k := fun k => by rw [u5, hf_up_ne (fun q => absurd q.1 (by decide)), w95]
      have v97 : ∀ k, ξ7 197 k = ξ6 197 k := fun k => by rw [u5, hf_up_ne (fun q => absurd q.1 (by decide))]
      have v18 : ξ7 192 18 = z7 := by rw [u5, hf_up_eq]
      have r7 : RP ψ5 ξ7 := by rw [u5]; exact rp_got r1 (by omega) (by omega)
      have mk := mlaw_l 9 ξ7 (χ 195 4) z4 0 (by decide) (by decide) (by decide) (by omega)
      rw [v18] at mk
      have k42 : ψ5 42 (z4 * 8 + z7).toNat = φ 42 (8 * z4.toNat + z7.toNat) := by
        rw [show (z4 * 8 + z7).toNat = 8 * z4.toNat + z7.toNat by omega]
        exact kd5 42 _ (by decide)
      by_cases c6 : ψ5 42 (z4 * 8 + z7).toNat = -1
      · rw [if_pos c6, bnv_e rfl, bnv_e rfl] at e1
        have hst : ∀ i : Nat, (i : Int) < χ 195 4 → ¬ (χ 195 (75 + i) = z4 ∧ χ 195 (83 + i) = z7) := by
          rcases d8 z4.toNat z7.toNat (by omega) (by omega) with ⟨q1, q2⟩ | ⟨q, q1, q2, q3⟩
          · intro i hi
            have := q2 i hi
            omega
          · omega
        rcases mk with ⟨j1, j2⟩ | ⟨j1, j, j2, j3, j4, j5⟩
        · rw [show (8 - 0 : Int).toNat + 1 = 9 from rfl, j1] at e2
          have i2 : Inv (hf_up (hf_up ξ7 195 (75 + χ 195 4).toNat z4) 195 (83 + χ 195 4).toNat z7) := by
            have i1 : Inv (hf_up ξ7 195 (75 + χ 195 4).toNat z4) := iv_upI (s := 75) (t := 83) (lo := 0) (u := 7) (z := 75 + χ 195 4) r7.1.2 (by decide +kernel) (by omega) (by omega) (by omega) (by omega)
            exact iv_upI (s := 83) (t := 91) (lo := 0) (u := 7) (z := 83 + χ 195 4) i1 (by decide +kernel) (by omega) (by omega) (by omega) (by omega)
          have rq : RP ψ5 (hf_up (hf_up ξ7 195 (75 + χ 195 4).toNat z4) 195 (83 + χ 195 4).toNat z7) := rp_f r7 r7.1.1 i2 (fun _ _ => rfl) (fun _ _ => rfl) (fun _ => rfl) (fun _ => rfl) (fun _ => rfl) (fun _ => rfl)
          have ra := rp_adv rq rfl rfl
          have kd : ∀ a k, (32 ≤ a ∧ a ≤ 48 ∧ ¬ a = 43) → F_Reader_advance_1 ψ5 a k = φ a k := fun a k q => (fr_hi ra.2.1 (by decide) (obl_d q) (by omega) k).trans (kd5 a k q)
          have y95 : ∀ k : Nat, F_RideLawsModel_next_192 (hf_up (hf_up ξ7 195 (75 + χ 195 4).toNat z4) 195 (83 + χ 195 4).toNat z7) 195 k = hf_up (hf_up ξ7 195 (75 + χ 195 4).toNat z4) 195 (83 + χ 195 4).toNat z7 195 k := fun k => fr_at ra.2.2 195 (by decide) k
          have y97 : ∀ k : Nat, F_RideLawsModel_next_192 (hf_up (hf_up ξ7 195 (75 + χ 195 4).toNat z4) 195 (83 + χ 195 4).toNat z7) 197 k = ξ7 197 k := fun k => (fr_at ra.2.2 197 (by decide) k).trans rfl
          have ra1 := ra.1
          generalize F_RideLawsModel_next_192 (hf_up (hf_up ξ7 195 (75 + χ 195 4).toNat z4) 195 (83 + χ 195 4).toNat z7) = ξ9 at e2 ra1 y95 y97
          generalize F_Reader_advance_1 ψ5 = ψ8 at e1 ra1 kd
          have k0 : ψ8 32 4 = χ 195 4 := (kd 32 4 (by decide)).trans c0.2.2.2.2
          have l0 : ξ9 195 4 = χ 195 4 := by rw [y95, hf_up_ne (fun q => by omega), hf_up_ne (fun q => by omega), v95]
          unfold F_Plan_addLaw_31 F_Plan_addNamed_31_k1_4 at e1
          rw [bnd_e rfl, k0] at e1
          rw [l0] at e2
          cases e1
          cases e2
          have x95 : ∀ k : Nat, ¬ k = 4 → ¬ k = (75 + χ 195 4).toNat → ¬ k = (83 + χ 195 4).toNat → hf_up ξ9 195 4 (χ 195 4 + 1) 195 k = χ 195 k := fun k q0 q1 q2 => by
            rw [hf_up_ne (fun w => q0 w.2), y95, hf_up_ne (fun w => q2 w.2), hf_up_ne (fun w => q1 w.2), v95]
          have x97 : ∀ k, hf_up ξ9 195 4 (χ 195 4 + 1) 197 k = ξ6 197 k := fun k => (hf_up_ne (fun w => absurd w.1 (by decide))).trans ((y97 k).trans (v97 k))
          have x0 : hf_up ξ9 195 4 (χ 195 4 + 1) 195 4 = χ 195 4 + 1 := hf_up_eq
          have x75 : hf_up ξ9 195 4 (χ 195 4 + 1) 195 (75 + χ 195 4).toNat = z4 := by
            rw [hf_up_ne (fun w => by omega), y95, hf_up_ne (fun w => by omega), hf_up_eq]
          have x83 : hf_up ξ9 195 4 (χ 195 4 + 1) 195 (83 + χ 195 4).toNat = z7 := by
            rw [hf_up_ne (fun w => by omega), y95, hf_up_eq]
          refine Or.inl ⟨rfl, rfl, ⟨?_, ?_, ?_, ?_, ?_, ?_, ?_, ?_, ?_, ?_⟩⟩
          · exact rp_f ra1 kc.1 km.1 (fun _ _ => rfl) (fun j hj => hf_up_ne (fun q => absurd q.1 (by decide))) (fun _ => rfl) (fun j => hf_up_ne (fun q => absurd q.1 (by decide))) (fun _ => rfl) (fun j => hf_up_ne (fun q => absurd q.1 (by decide)))
          · unfold CTR
            rw [x0, x95 0 (by omega) (by omega) (by omega), x95 1 (by omega) (by omega) (by omega), x95 2 (by omega) (by omega) (by omega), x95 3 (by omega) (by omega) (by omega)]
            exact ⟨(kd 32 0 (by decide)).trans c0.1, (kd 32 1 (by decide)).trans c0.2.1, (kd 32 2 (by decide)).trans c0.2.2.1, (kd 32 3 (by decide)).trans c0.2.2.2.1, rfl⟩
          · have y : ∀ k : Nat, ¬ k = (32 + χ 195 4).toNat → hf_up ψ8 33 (32 + χ 195 4).toNat z1 33 k = φ 33 k := fun k hk => (hf_up_ne (fun w => hk w.2)).trans (kd 33 k (by decide))
            have y1 : hf_up ψ8 33 (32 + χ 195 4).toNat z1 33 (32 + (χ 195 4).toNat) = z1 := by
              rw [show 32 + (χ 195 4).toNat = (32 + χ 195 4).toNat by omega]
              exact hf_up_eq
            have z97 : ∀ k : Nat, ¬ k = (58 + χ 195 4).toNat → hf_up ξ9 195 4 (χ 195 4 + 1) 197 k = χ 197 k := fun k hk => (x97 k).trans (w97 k hk)
            refine ⟨nmr_g d2.1 (x95 0 (by omega) (by omega) (by omega)) (fun i hi => y _ (by omega)) (fun i hi => z97 _ (by omega)), nmr_g d2.2.1 (x95 1 (by omega) (by omega) (by omega)) (fun i hi => y _ (by omega)) (fun i hi => z97 _ (by omega)), nmr_g d2.2.2.1 (x95 2 (by omega) (by omega) (by omega)) (fun i hi => y _ (by omega)) (fun i hi => z97 _ (by omega)), nmr_g d2.2.2.2.1 (x95 3 (by omega) (by omega) (by omega)) (fun i hi => y _ (by omega)) (fun i hi => z97 _ (by omega)), nmr_a d2.2.2.2.2 (by omega) x0 (fun i hi => y _ (by omega)) (fun i hi => z97 _ (by omega)) m3 y1 ?_⟩
            rw [x97, show 58 + (χ 195 4).toNat = (58 + χ 195 4).toNat by omega]; exact w97n
          · exact rgr_f d3 (fun k => kd 34 k (by decide)) (fun k => kd 35 k (by decide)) (fun j hj => x95 j (by omega) (by omega) (by omega)) (by omega)
          · exact ser_f d4 (fun k => kd 36 k (by decide)) (fun k => kd 37 k (by decide)) (fun k => kd 38 k (by decide)) (fun k => kd 44 k (by decide)) (fun j hj => x95 j (by omega) (by omega) (by omega)) (by omega)
          · exact rdr_f d5 (fun k => kd 46 k (by decide)) (fun k => kd 47 k (by decide)) (fun k => kd 48 k (by decide)) (fun j hj => x95 j (by omega) (by omega) (by omega)) (by rw [x95 1 (by omega) (by omega) (by omega)]; omega) (by rw [x95 2 (by omega) (by omega) (by omega)]; omega) (lng_b h.1.1.2)
          · exact str_f d6 (fun k => kd 45 k (by decide)) (fun j hj => x95 j (by omega) (by omega) (by omega))
          · intro i hi
            rw [x0] at hi
            rw [x95 2 (by omega) (by omega) (by omega)]
            by_cases hc : (i : Int) < χ 195 4
            · rw [x95 (75 + i) (by omega) (by omega) (by omega), x95 (83 + i) (by omega) (by omega) (by omega)]
              have := d7 i hc
              exact ⟨(show hf_up ψ8 39 (χ 195 4).toNat z4 39 i = _ from (hf_up_ne (fun w => by omega)).trans ((kd 39 i (by decide)).trans this.1)), (show hf_up ψ8 40 (χ 195 4).toNat z7 40 i = _ from (hf_up_ne (fun w => by omega)).trans ((kd 40 i (by decide)).trans this.2.1)), this.2.2⟩
            · rw [show 75 + i = (75 + χ 195 4).toNat by omega, show 83 + i = (83 + χ 195 4).toNat by omega, x75, x83, show i = (χ 195 4).toNat by omega]
              exact ⟨(show hf_up ψ8 39 (χ 195 4).toNat z4 39 (χ 195 4).toNat = _ from hf_up_eq), (show hf_up ψ8 40 (χ 195 4).toNat z7 40 (χ 195 4).toNat = _ from hf_up_eq), t3, u3⟩
          · intro a c ha hc
            rw [x0]
            have xs : ∀ i : Nat, (i : Int) < χ 195 4 → hf_up ξ9 195 4 (χ 195 4 + 1) 195 (75 + i) = χ 195 (75 + i) ∧ hf_up ξ9 195 4 (χ 195 4 + 1) 195 (83 + i) = χ 195 (83 + i) := fun i hi => ⟨x95 _ (by omega) (by omega) (by omega), x95 _ (by omega) (by omega) (by omega)⟩
            have xn : ∀ i : Nat, (i : Int) = χ 195 4 → hf_up ξ9 195 4 (χ 195 4 + 1) 195 (75 + i) = z4 ∧ hf_up ξ9 195 4 (χ 195 4 + 1) 195 (83 + i) = z7 := fun i hi => by
              rw [show 75 + i = (75 + χ 195 4).toNat by omega, show 83 + i = (83 + χ 195 4).toNat by omega]
              exact ⟨x75, x83⟩
            by_cases he : (a : Int) = z4 ∧ (c : Int) = z7
            · refine Or.inr ⟨(χ 195 4).toNat, by omega, ?_, ?_, ?_, fun q hq hq2 hq3 => ?_⟩
              · rw [show 8 * a + c = (z4 * 8 + z7).toNat by omega]
                exact hf_up_eq.trans (by omega)
              · rw [(xn _ (by omega)).1]; omega
              · rw [(xn _ (by omega)).2]; omega
              · refine Classical.byContradiction (fun hne => ?_)
                have hq4 : (q : Int) < χ 195 4 := by omega
                rw [(xs q hq4).1] at hq2
                rw [(xs q hq4).2] at hq3
                exact hst q hq4 ⟨by omega, by omega⟩
            · have e42 : hf_up (hf_up (hf_up (hf_up (hf_up ψ8 33 (32 + χ 195 4).toNat z1) 32 4 (χ 195 4 + 1)) 39 (χ 195 4).toNat z4) 40 (χ 195 4).toNat z7) 42 (z4 * 8 + z7).toNat (χ 195 4) 42 (8 * a + c) = φ 42 (8 * a + c) := (hf_up_ne (fun w => by omega)).trans (kd 42 _ (by decide))
              rw [e42]
              rcases d8 a c ha hc with ⟨q1, q2⟩ | ⟨i, q1, q2, q3, q4, q5⟩
              · refine Or.inl ⟨q1, fun i hi w => ?_⟩
                by_cases hq : (i : Int) < χ 195 4
                · rw [(xs i hq).1, (xs i hq).2] at w
                  exact q2 i hq w
                · rw [(xn i (by omega)).1, (xn i (by omega)).2] at w
                  omega
              · refine Or.inr ⟨i, by omega, q2, by rw [(xs i q1).1]; exact q3, by rw [(xs i q1).2]; exact q4, fun q hq hq2 hq3 => ?_⟩
                by_cases hq4 : (q : Int) < χ 195 4
                · rw [(xs q hq4).1] at hq2
                  rw [(xs q hq4).2] at hq3
                  exact q5 q hq4 hq2 hq3
                · rw [(xn q (by omega)).1] at hq2
                  rw [(xn q (by omega)).2] at hq3
                  omega
          · exact clr_f d9 (fun k => kd 41 k (by decide)) (fun j hj => x95 j (by omega) (by omega) (by omega))
        · exfalso
          rw [v95] at j4 j5
          exact hst j j3 ⟨j4, j5⟩
      · rw [if_neg c6, bnd_e (show F_Reader_refuse_1 ψ5 3 = (_, _) from rfl)] at e1
        rcases mk with ⟨j1, j2⟩ | ⟨j1, j, j2, j3, j4, j5⟩
        · exfalso
          rcases d8 z4.toNat z7.toNat (by omega) (by omega) with ⟨q1, q2⟩ | ⟨q, q1, q2, q3, q4, _⟩
          · exact c6 (k42.trans q1)
          · refine j2 q (by omega) q1 ⟨?_, ?_⟩
            · rw [v95]; omega
            · rw [v95]; omega
        · rw [show (8 - 0 : Int).toNat + 1 = 9 from rfl, j1] at e2
          have := rf_bad r7 (show F_Reader_refuse_1 ψ5 3 = (_, _) from rfl) e2
          cases e1
          exact Or.inr ⟨rfl, this.2.1, this.2.2⟩
    · rw [if_neg (fun q => q u2)] at e1
      rw [if_neg (fun q => q u1)] at e2
      cases e1
      cases e2
      exact Or.inr ⟨rfl, rfl, u3⟩
  · rw [if_neg (fun q => q t2)] at e1
    rw [if_neg (fun q => q t1)] at e2
    cases e1
    cases e2
    exact Or.inr ⟨rfl, rfl, t3⟩
theorem bit_e {φ : hf_F} {v k : Int} : (F_RideLawsModel_bitOf φ v k = 0) = (hb_and (hb_shr v k) 1 = 0) := by
  unfold F_RideLawsModel_bitOf
  have := hr_and1 (hb_shr v k)
  by_cases c : hb_and (hb_shr v k) 1 = 1
  · rw [if_neg (fun q => q c), c]
  · rw [if_pos c]
    exact propext ⟨fun _ => by omega, fun _ => rfl⟩
theorem clash_rel {φ χ ψ ξ : hf_F} {r s : Int} (h : DRP φ χ) (e1 : F_RideText_readClash_182 φ = (r, ψ)) (e2 : F_RideLawsModel_readClash_192 χ = (s, ξ)) : LR r s ψ ξ := by
  have kc := K_F_RideText_readClash_182 h.1.1.1 e1
  have km := K_F_RideLawsModel_readClash_192 h.1.1.2 e2
  unfold F_RideText_readClash_182 at e1
  unfold F_RideLawsModel_readClash_192 at e2
  rw [bnv_e rfl] at e1 e2
  have h1 := drp_adv h rfl rfl
  generalize F_Reader_advance_1 φ = ψ1 at e1 h1
  generalize F_RideLawsModel_next_192 χ = ξ1 at e2 h1
  obtain ⟨h1, f1, f2⟩ := h1
  obtain ⟨d1, d2, d3, d4, d5, d6, d7, d8, d9⟩ := h1.2
  have c0 := d1
  unfold CTR at c0
  have b1 := ctb h1.1.1.2
  unfold CTB at b1
  obtain ⟨z2, ψ2, h2⟩ : ∃ a b, F_Reader_peekNamed_1_31_k2_4 ψ1 = (a, b) := ⟨_, _, rfl⟩
  obtain ⟨y2, ξ2, g2⟩ : ∃ a b, F_RideLawsModel_takesName_192 ξ1 58 (ξ1 195 4) = (a, b) := ⟨_, _, rfl⟩
  rw [bnd_e h2] at e1
  rw [bnd_e g2] at e2
  rcases tn_31_4 h1.1 c0.2.2.2.2 (by omega) d2.2.2.2.2 h2 g2 with ⟨t1, t2, t3, t4, t5⟩ | ⟨t1, t2, t3⟩
  · rw [if_pos (show ¬ z2 = -1 by omega), t4, bnv_e rfl] at e1
    rw [if_pos (show ¬ y2 = 0 by omega)] at e2
    obtain ⟨r1, r2, r3, r4, r5⟩ := rp_gadv (v := z2) h1.1 (by omega) (by omega)
    rw [← t5] at r1 r3 r4 r5
    rw [r3] at e2
    generalize F_Reader_advance_1 ψ1 = ψ4 at e1 r1 r2
    obtain ⟨z5, ψ5, h5⟩ : ∃ a b, F_Reader_peekNamed_1_31_k2_4 ψ4 = (a, b) := ⟨_, _, rfl⟩
    obtain ⟨y5, ξ5, g5⟩ : ∃ a b, F_RideLawsModel_looksAt_192 ξ2 58 (ξ2 195 4) = (a, b) := ⟨_, _, rfl⟩
    rw [bnd_e h5] at e1
    rw [bnd_e g5] at e2
    have q32 : ψ4 32 4 = ξ2 195 4 := by rw [r2 32 4 (by decide), r4]; exact c0.2.2.2.2
    rcases pn_31_4 r1 q32 (by rw [q32, r4]; omega) (nmr_f d2.2.2.2.2 (r4 4) (fun k => r2 33 k (by decide)) r5) h5 g5 with ⟨u1, u2, u3, u4, u5⟩ | ⟨u1, u2, u3⟩
    · rw [r4] at u3
      rw [if_pos (show ¬ z5 = -1 by omega), u4] at e1
      rw [if_pos (show ¬ y5 = 0 by omega)] at e2
      have v95 : ∀ k, ξ5 195 k = ξ1 195 k := fun k => by rw [u5, hf_up_ne (fun q => absurd q.1 (by decide)), r4]
      have v97 : ∀ k, ξ5 197 k = ξ1 197 k := fun k => by rw [u5, hf_up_ne (fun q => absurd q.1 (by decide)), r5]
      have v18 : ξ5 192 18 = z5 := by rw [u5, hf_up_eq]
      have r7 : RP ψ4 ξ5 := by rw [u5]; exact rp_got r1 (by omega) (by omega)
      rw [v18] at e2
      have k41 : ψ4 41 z2.toNat = ξ5 195 (91 + z2).toNat := by
        rw [r2 41 _ (by decide), v95, show (91 + z2).toNat = 91 + z2.toNat by omega]
        exact d9 z2.toNat (by omega)
      by_cases c1 : z2 = z5
      · rw [if_pos c1, bnd_e (show F_Reader_refuse_1 ψ4 3 = (_, _) from rfl)] at e1
        rw [if_pos c1.symm, bnd_e (show F_RideLawsModel_bad_192 ξ5 3 = (_, _) from rfl)] at e2
        have := rf_bad r7 (show F_Reader_refuse_1 ψ4 3 = (_, _) from rfl) (show F_RideLawsModel_bad_192 ξ5 3 = (_, _) from rfl)
        cases e1
        cases e2
        exact Or.inr ⟨rfl, rfl, this.2.2⟩
      · rw [if_neg c1] at e1
        rw [if_neg (fun q => c1 q.symm), bnp_e rfl] at e2
        have hb := bit_e (φ := ξ5) (v := ξ5 195 (91 + z2).toNat) (k := z5)
        rw [← k41] at hb
        by_cases c2 : hb_and (hb_shr (ψ4 41 z2.toNat) z5) 1 = 0
        · rw [if_pos c2, bnv_e rfl, bnv_e rfl] at e1
          rw [← k41, if_pos (show F_RideLawsModel_bitOf ξ5 (ψ4 41 z2.toNat) z5 = 0 by rw [hb]; exact c2), bnv_e rfl] at e2
          have o1 := hr_or (ψ4 41 z2.toNat) (hb_shl 1 z5)
          have o2 := hr_or (hf_up ξ5 195 (91 + z2).toNat (hb_or (ψ4 41 z2.toNat) (hb_shl 1 z5)) 195 (91 + z5).toNat) (hb_shl 1 z2)
          have i2 : Inv (hf_up (hf_up ξ5 195 (91 + z2).toNat (hb_or (ψ4 41 z2.toNat) (hb_shl 1 z5))) 195 (91 + z5).toNat (hb_or (hf_up ξ5 195 (91 + z2).toNat (hb_or (ψ4 41 z2.toNat) (hb_shl 1 z5)) 195 (91 + z5).toNat) (hb_shl 1 z2))) := by
            have i1 : Inv (hf_up ξ5 195 (91 + z2).toNat (hb_or (ψ4 41 z2.toNat) (hb_shl 1 z5))) := iv_upI (s := 91) (t := 99) (lo := -2147483648) (u := 2147483647) (z := 91 + z2) r7.1.2 (by decide +kernel) (by omega) (by omega) o1.1 o1.2
            exact iv_upI (s := 91) (t := 99) (lo := -2147483648) (u := 2147483647) (z := 91 + z5) i1 (by decide +kernel) (by omega) (by omega) o2.1 o2.2
          have e5 : hf_up ξ5 195 (91 + z2).toNat (hb_or (ψ4 41 z2.toNat) (hb_shl 1 z5)) 195 (91 + z5).toNat = ψ4 41 z5.toNat := by
            rw [hf_up_ne (fun q => by omega), v95, r2 41 _ (by decide), show (91 + z5).toNat = 91 + z5.toNat by omega]
            exact (d9 z5.toNat (by omega)).symm
          rw [e5] at e2 i2
          have rq : RP ψ4 (hf_up (hf_up ξ5 195 (91 + z2).toNat (hb_or (ψ4 41 z2.toNat) (hb_shl 1 z5))) 195 (91 + z5).toNat (hb_or (ψ4 41 z5.toNat) (hb_shl 1 z2))) := rp_f r7 r7.1.1 i2 (fun _ _ => rfl) (fun _ _ => rfl) (fun _ => rfl) (fun _ => rfl) (fun _ => rfl) (fun _ => rfl)
          have ra := rp_adv rq rfl rfl
          have kd : ∀ a k, (32 ≤ a ∧ a ≤ 48 ∧ ¬ a = 43) → F_Reader_advance_1 ψ4 a k = ψ1 a k := fun a k q => (fr_hi ra.2.1 (by decide) (obl_d q) (by omega) k).trans (r2 a k q)
          have kq : ∀ k, F_Reader_advance_1 ψ4 41 k = ψ4 41 k := fun k => fr_hi ra.2.1 (by decide) (by decide) (by decide) k
          have x95 : ∀ k : Nat, ¬ k = (91 + z2).toNat → ¬ k = (91 + z5).toNat → F_RideLawsModel_next_192 (hf_up (hf_up ξ5 195 (91 + z2).toNat (hb_or (ψ4 41 z2.toNat) (hb_shl 1 z5))) 195 (91 + z5).toNat (hb_or (ψ4 41 z5.toNat) (hb_shl 1 z2))) 195 k = ξ1 195 k := fun k q1 q2 => by
            rw [fr_at ra.2.2 195 (by decide), hf_up_ne (fun w => q2 w.2), hf_up_ne (fun w => q1 w.2), v95]
          have x97 : ∀ k : Nat, F_RideLawsModel_next_192 (hf_up (hf_up ξ5 195 (91 + z2).toNat (hb_or (ψ4 41 z2.toNat) (hb_shl 1 z5))) 195 (91 + z5).toNat (hb_or (ψ4 41 z5.toNat) (hb_shl 1 z2))) 197 k = ξ1 197 k := fun k => (fr_at ra.2.2 197 (by decide) k).trans (v97 k)
          have xa : F_RideLawsModel_next_192 (hf_up (hf_up ξ5 195 (91 + z2).toNat (hb_or (ψ4 41 z2.toNat) (hb_shl 1 z5))) 195 (91 + z5).toNat (hb_or (ψ4 41 z5.toNat) (hb_shl 1 z2))) 195 (91 + z2).toNat = hb_or (ψ4 41 z2.toNat) (hb_shl 1 z5) := by
            rw [fr_at ra.2.2 195 (by decide), hf_up_ne (fun w => by omega), hf_up_eq]
          have xb : F_RideLawsModel_next_192 (hf_up (hf_up ξ5 195 (91 + z2).toNat (hb_or (ψ4 41 z2.toNat) (hb_shl 1 z5))) 195 (91 + z5).toNat (hb_or (ψ4 41 z5.toNat) (hb_shl 1 z2))) 195 (91 + z5).toNat = hb_or (ψ4 41 z5.toNat) (hb_shl 1 z2) := by
            rw [fr_at ra.2.2 195 (by decide), hf_up_eq]
          have ra1 := ra.1
          generalize F_RideLawsModel_next_192 (hf_up (hf_up ξ5 195 (91 + z2).toNat (hb_or (ψ4 41 z2.toNat) (hb_shl 1 z5))) 195 (91 + z5).toNat (hb_or (ψ4 41 z5.toNat) (hb_shl 1 z2))) = ξ9 at e2 ra1 x95 x97 xa xb
          generalize F_Reader_advance_1 ψ4 = ψ9 at e1 ra1 kd kq
          unfold F_Plan_addClash_31 at e1
          rw [kq z2.toNat] at e1
          have e6 : hf_up ψ9 41 z2.toNat (hb_or (ψ4 41 z2.toNat) (hb_shl 1 z5)) 41 z5.toNat = ψ4 41 z5.toNat := by
            rw [hf_up_ne (fun q => by omega), kq]
          rw [e6] at e1
          cases e1
          cases e2
          refine Or.inl ⟨rfl, rfl, ⟨?_, ?_, ?_, ?_, ?_, ?_, ?_, ?_, ?_, ?_⟩⟩
          · exact rp_f ra1 kc.1 km.1 (fun _ _ => rfl) (fun _ _ => rfl) (fun _ => rfl) (fun _ => rfl) (fun _ => rfl) (fun _ => rfl)
          · exact ctr_f d1 (fun k _ => kd 32 k (by decide)) (fun j hj => x95 j (by omega) (by omega))
          · exact nar_f d2 (fun k => kd 33 k (by decide)) x97 (fun j hj => x95 j (by omega) (by omega))
          · exact rgr_f d3 (fun k => kd 34 k (by decide)) (fun k => kd 35 k (by decide)) (fun j hj => x95 j (by omega) (by omega)) (by omega)
          · exact ser_f d4 (fun k => kd 36 k (by decide)) (fun k => kd 37 k (by decide)) (fun k => kd 38 k (by decide)) (fun k => kd 44 k (by decide)) (fun j hj => x95 j (by omega) (by omega)) (by omega)
          · exact rdr_f d5 (fun k => kd 46 k (by decide)) (fun k => kd 47 k (by decide)) (fun k => kd 48 k (by decide)) (fun j hj => x95 j (by omega) (by omega)) (by rw [x95 1 (by omega) (by omega)]; omega) (by rw [x95 2 (by omega) (by omega)]; omega) (lng_b h1.1.1.2)
          · exact str_f d6 (fun k => kd 45 k (by decide)) (fun j hj => x95 j (by omega) (by omega))
          · exact lwr_f d7 (fun k => kd 39 k (by decide)) (fun k => kd 40 k (by decide)) (fun j hj => x95 j (by omega) (by omega)) (by rw [x95 2 (by omega) (by omega)]; omega) (by omega)
          · exact lor_f d8 (fun k => kd 42 k (by decide)) (fun j hj => x95 j (by omega) (by omega)) (by omega)
          · intro i hi
            by_cases q5 : i = z5.toNat
            · rw [q5, show 91 + z5.toNat = (91 + z5).toNat by omega, xb]
              exact hf_up_eq
            · by_cases q2 : i = z2.toNat
              · rw [q2, show 91 + z2.toNat = (91 + z2).toNat by omega, xa]
                exact (hf_up_ne (fun w => by omega)).trans hf_up_eq
              · rw [x95 (91 + i) (by omega) (by omega), hf_up_ne (fun w => q5 w.2), hf_up_ne (fun w => q2 w.2), kd 41 i (by decide)]
                exact d9 i hi
        · rw [if_neg c2, bnd_e (show F_Reader_refuse_1 ψ4 3 = (_, _) from rfl)] at e1
          rw [← k41, if_neg (show ¬ F_RideLawsModel_bitOf ξ5 (ψ4 41 z2.toNat) z5 = 0 by rw [hb]; exact c2), bnd_e (show F_RideLawsModel_bad_192 ξ5 3 = (_, _) from rfl)] at e2
          have := rf_bad r7 (show F_Reader_refuse_1 ψ4 3 = (_, _) from rfl) (show F_RideLawsModel_bad_192 ξ5 3 = (_, _) from rfl)
          cases e1
          cases e2
          exact Or.inr ⟨rfl, rfl, this.2.2⟩
    · rw [if_neg (fun q => q u2)] at e1
      rw [if_neg (fun q => q u1)] at e2
      cases e1
      cases e2
      exact Or.inr ⟨rfl, rfl, u3⟩
  · rw [if_neg (fun q => q t2)] at e1
    rw [if_neg (fun q => q t1)] at e2
    cases e1
    cases e2
    exact Or.inr ⟨rfl, rfl, t3⟩
