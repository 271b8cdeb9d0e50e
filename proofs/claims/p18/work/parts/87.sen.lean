/-! a SENTENCE: what the class's readCond reads, the model's loop reads, too -/
theorem smm_1 {χ : hf_F} {m : Nat} (hI : Inv χ) (h : SMM χ + 1 < (m : Int)) : ∃ j, m = j + 1 := by
  have o35 := iv_at (a := 192) (k := 35) (lo := 0) (u := 20) hI (by decide +kernel)
  have o36 := iv_at (a := 192) (k := 36) (lo := 0) (u := 45) hI (by decide +kernel)
  have o38 := iv_at (a := 192) (k := 38) (lo := 0) (u := 1) hI (by decide +kernel)
  unfold SMM at h
  exact ⟨m - 1, by omega⟩
theorem bst_l {RO : hf_F → Int × hf_F} {d : Int} (hA : SAP RO d) : ∀ (n : Nat) (φ χ ψ : hf_F) (r i : Int) (T w a k m : Nat), 20 - i < (n : Int) → 0 ≤ i → i + 1 ≤ φ 52 4 → SDN φ χ T w a k 0 d → SBT χ T → w ≤ 1 → a ≤ 1 → SMM χ + 1 < (m : Int) → RCL RO n φ (w : Int) i = (r, ψ) →
    (r = 0 ∧ SFL ψ χ m) ∨ (r = 1 ∧ ∃ (w a k m' : Nat) (χ' : hf_F), F_RideLawsModel_sentence_192_l48 m χ 1 = F_RideLawsModel_sentence_192_l48 m' χ' 1 ∧ SMM χ' + 1 < (m' : Int) ∧ SDN ψ χ' T w a k w d ∧ SLW χ χ' T ∧ w ≤ 1 ∧ a ≤ 1 ∧ ¬ (ψ 1 5 = 3 ∧ ψ 1 7 = 13) ∧ ¬ (ψ 1 5 = 3 ∧ ψ 1 7 = 12) ∧ χ 192 35 ≤ χ' 192 35) := by
  intro n
  induction n with
  | zero =>
    intro φ χ ψ r i T w a k m h1 h2 h3 h hB hw ha hm e
    have o35 := iv_at (a := 192) (k := 35) (lo := 0) (u := 20) h.1.1.2 (by decide +kernel)
    have := h.2.2.2.2.2.2.1
    omega
  | succ n ih =>
    intro φ χ ψ r i T w a k m h1 h2 h3 h hB hw ha hm e
    have o35 := iv_at (a := 192) (k := 35) (lo := 0) (u := 20) h.1.1.2 (by decide +kernel)
    have c52 := h.2.2.2.2.2.2.1
    have c36 := h.2.2.2.2.1
    have c38 := h.2.2.2.1
    have hw01 : ((w : Int) = 0 ∨ (w : Int) = 1) := by omega
    obtain ⟨m, rfl⟩ := smm_1 h.1.1.2 hm
    by_cases t13 : φ 1 5 = 3 ∧ φ 1 7 = 13
    · rw [rcl_and (kw_1 t13) (by omega) hw01] at e
      obtain ⟨ξ, b1, b2, b3, b4, b5⟩ := beh_a h hB hw ha t13
      have hl : F_RideLawsModel_sentence_192_l48 (m + 1) χ 1 = F_RideLawsModel_sentence_192_l48 m ξ 1 := by
        rw [l48_w c38 (rp_11 h.1 t13.1), bnd_e b1, if_pos (show ¬ (1 : Int) = 0 by decide)]
      have x36 := b2.2.2.2.2.1
      have x38 := b2.2.2.2.1
      have hm2 : SMM ξ + 1 < (m : Int) := by unfold SMM at hm ⊢; omega
      obtain ⟨z, ψ1, g⟩ : ∃ p q, RO (F_Reader_advance_1 φ) = (p, q) := ⟨_, _, rfl⟩
      rw [bnd_e g] at e
      rcases hA _ _ _ _ _ _ b2 g hm2 with ⟨q1, ζ, s1, s2⟩ | ⟨q1, k2, m2, χ2, q2, q3, q4, q5, q6⟩
      · rw [if_neg (show ¬ ¬ z = 0 from fun q => q q1)] at e
        cases e
        exact Or.inl ⟨rfl, ζ, hl.trans s1, s2⟩
      · subst q1
        have hroom := sdn_room q4
        rw [if_pos (show ¬ (1 : Int) = 0 by decide), bnd_e (sad_e hroom)] at e
        have hS := sdn_add_a q4 (fun qw => (q5 T (by omega)).trans ((b4 T (by omega)).trans (h.2.2.2.2.2.2.2.2.1 qw))) ((q5 (T + w) (by omega)).trans b3) hroom
        have hL : SLW χ χ2 T := fun j hj => (q5 j (by omega)).trans (b4 j (by omega))
        have y52 := hS.2.2.2.2.2.2.1
        rcases ih (SAD ψ1 13 0 0) χ2 ψ r (i + 1) T w 1 k2 m2 (by omega) (by omega) (by omega) hS (sbt_w hB hL) hw (Nat.le_refl 1) q3 e with ⟨f1, ζ, s1, s2⟩ | ⟨f1, w', a', k', m', χ', f2, f3, f4, f5, f6, f7, f8, f9, f10⟩
        · exact Or.inl ⟨f1, ζ, hl.trans (q2.trans s1), s2⟩
        · exact Or.inr ⟨f1, w', a', k', m', χ', hl.trans (q2.trans f2), f3, f4, slw_t hL f5 (Nat.le_refl T), f6, f7, f8, f9, by omega⟩
    · by_cases t12 : φ 1 5 = 3 ∧ φ 1 7 = 12
      · rw [rcl_or (kw_0 t13) (kw_1 t12) (by omega) hw01] at e
        have hx : ∃ φ1 : hf_F, (if (w : Int) = 0 then φ else (F_Sentence_add_52 φ 12 0 0).2) = φ1 ∧ SDN φ1 χ T w a k w d ∧ φ1 1 5 = φ 1 5 ∧ φ1 1 7 = φ 1 7 ∧ φ1 52 4 = φ 52 4 := by
          by_cases cw : w = 0
          · subst cw
            exact ⟨φ, if_pos rfl, h, rfl, rfl, rfl⟩
          · have cw1 : w = 1 := by omega
            subst cw1
            have hroom := sdn_room h
            refine ⟨SAD φ 12 0 0, ?_, sdn_add_o h hroom, sad_o (by omega), sad_o (by omega), (sad_f φ 12 0 0).2.2.2.2 52 4 (by omega) (by omega)⟩
            rw [if_neg (show ¬ ((1 : Nat) : Int) = 0 by decide), sad_e hroom]
        obtain ⟨φ1, x1, x2, x3, x4, x5⟩ := hx
        rw [x1] at e
        have t12' : φ1 1 5 = 3 ∧ φ1 1 7 = 12 := by omega
        obtain ⟨ξ, b1, b2, b3, b4, b5⟩ := beh_o x2 hB hw ha t12'
        have hl : F_RideLawsModel_sentence_192_l48 (m + 1) χ 1 = F_RideLawsModel_sentence_192_l48 m ξ 1 := by
          rw [l48_w c38 (rp_11 h.1 t12.1), bnd_e b1, if_pos (show ¬ (1 : Int) = 0 by decide)]
        have x36 := b2.2.2.2.2.1
        have x38 := b2.2.2.2.1
        have hm2 : SMM ξ + 1 < (m : Int) := by unfold SMM at hm ⊢; omega
        obtain ⟨z, ψ1, g⟩ : ∃ p q, RO (F_Reader_advance_1 φ1) = (p, q) := ⟨_, _, rfl⟩
        rw [bnd_e g] at e
        rcases hA _ _ _ _ _ _ b2 g hm2 with ⟨q1, ζ, s1, s2⟩ | ⟨q1, k2, m2, χ2, q2, q3, q4, q5, q6⟩
        · rw [if_neg (show ¬ ¬ z = 0 from fun q => q q1)] at e
          cases e
          exact Or.inl ⟨rfl, ζ, hl.trans s1, s2⟩
        · subst q1
          rw [if_pos (show ¬ (1 : Int) = 0 by decide)] at e
          have hS := sdn_or1 q4 ((q5 T (by omega)).trans b3)
          have hL : SLW χ χ2 T := fun j hj => (q5 j (by omega)).trans (b4 j (by omega))
          have y52 := hS.2.2.2.2.2.2.1
          rcases ih ψ1 χ2 ψ r (i + 1) T 1 0 k2 m2 (by omega) (by omega) (by omega) hS (sbt_w hB hL) (Nat.le_refl 1) (Nat.zero_le 1) q3 e with ⟨f1, ζ, s1, s2⟩ | ⟨f1, w', a', k', m', χ', f2, f3, f4, f5, f6, f7, f8, f9, f10⟩
          · exact Or.inl ⟨f1, ζ, hl.trans (q2.trans s1), s2⟩
          · exact Or.inr ⟨f1, w', a', k', m', χ', hl.trans (q2.trans f2), f3, f4, slw_t hL f5 (Nat.le_refl T), f6, f7, f8, f9, by omega⟩
      · have hroom := sdn_room h
        rw [rcl_end (kw_0 t13) (kw_0 t12) hroom hw01] at e
        by_cases cw : w = 0
        · subst cw
          rw [if_pos (show ((0 : Nat) : Int) = 0 from rfl)] at e
          cases e
          exact Or.inr ⟨rfl, 0, a, k, m + 1, χ, rfl, hm, h, fun _ _ => rfl, by omega, ha, t13, t12, by omega⟩
        · have cw1 : w = 1 := by omega
          subst cw1
          rw [if_neg (show ¬ ((1 : Nat) : Int) = 0 by decide)] at e
          cases e
          refine Or.inr ⟨rfl, 1, a, k, m + 1, χ, rfl, hm, sdn_add_o h hroom, fun _ _ => rfl, by omega, ha, ?_, ?_, by omega⟩
          · rw [sad_o (by omega), sad_o (by omega)]; exact t13
          · rw [sad_o (by omega), sad_o (by omega)]; exact t12
theorem sbp_x {RO : hf_F → Int × hf_F} {d : Int} (hA : SAP RO d) : SBP (RCX RO) d := by
  intro φ χ ψ r T m h hB e hm
  unfold RCX at e
  have o35 := iv_at (a := 192) (k := 35) (lo := 0) (u := 20) h.1.1.2 (by decide +kernel)
  obtain ⟨z, ψ1, g⟩ : ∃ p q, RO φ = (p, q) := ⟨_, _, rfl⟩
  rw [bnd_e g] at e
  rcases hA _ _ _ _ _ _ h g hm with ⟨q1, q2⟩ | ⟨q1, k2, m2, χ2, q2, q3, q4, q5, q6⟩
  · rw [if_neg (show ¬ ¬ z = 0 from fun q => q q1)] at e
    cases e
    exact Or.inl ⟨rfl, q2⟩
  · subst q1
    rw [if_pos (show ¬ (1 : Int) = 0 by decide)] at e
    have y52 := q4.2.2.2.2.2.2.1
    rcases bst_l hA ((20 - 0 : Int).toNat + 1) ψ1 χ2 ψ r 0 T 0 0 k2 m2 (by decide) (by decide) (by omega) q4 (sbt_w hB q5) (by decide) (by decide) q3 e with ⟨f1, ζ, s1, s2⟩ | ⟨f1, w', a', k', m', χ', f2, f3, f4, f5, f6, f7, f8, f9, f10⟩
    · exact Or.inl ⟨f1, ζ, q2.trans s1, s2⟩
    · exact Or.inr ⟨f1, w', a', k', m', χ', q2.trans f2, f3, f4, slw_t q5 f5 (Nat.le_refl T), f6, f7, f8, f9, by omega⟩
