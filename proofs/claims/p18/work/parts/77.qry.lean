/-! what is asked: count, seat, law, roll, aimSeat -/
theorem count_q {φ χ ξ : hf_F} {v r s : Int} (h : SCR φ χ) (hz : φ 1 2 = χ 192 2) (e1 : F_RideLaws_count_0 φ v = r) (e2 : F_RideLawsModel_count_192 χ v = (s, ξ)) : r = s := by
  unfold F_RideLaws_count_0 at e1
  unfold F_RideLawsModel_count_192 at e2
  by_cases c : v = 5
  · rw [if_neg (fun q => q c)] at e1 e2
    cases e2
    omega
  · rw [if_pos c] at e1 e2
    rw [bnp_e (isin_e _ v _ _)] at e2
    by_cases c1 : 0 ≤ v ∧ v ≤ 4
    · rw [if_neg (show ¬ v < 0 by omega), if_neg (show ¬ 5 ≤ v by omega)] at e1
      rw [if_pos c1, if_neg (by decide)] at e2
      cases e2
      rw [← e1]
      obtain ⟨p0, p1, p2, p3, p4⟩ := h.1.1
      have hv : v = 0 ∨ v = 1 ∨ v = 2 ∨ v = 3 ∨ v = 4 := by omega
      rcases hv with rfl | rfl | rfl | rfl | rfl
      · exact p0
      · exact p1
      · exact p2
      · exact p3
      · exact p4
    · rw [if_neg c1, if_pos rfl] at e2
      cases e2
      by_cases c2 : v < 0
      · rw [if_pos c2] at e1; omega
      · rw [if_neg c2, if_pos (show 5 ≤ v by omega)] at e1; omega
theorem seat_q {φ χ ξ : hf_F} {v w r s : Int} (hI : Inv χ) (h : SCR φ χ) (e1 : F_RideLaws_seat_0 φ v w = r) (e2 : F_RideLawsModel_seat_192 χ v w = (s, ξ)) : r = s := by
  have hbb := cb_i hI
  unfold CB at hbb
  have k1 : φ 6 1 = χ 194 1 := h.1.1.2.1
  unfold F_RideLaws_seat_0 at e1
  unfold F_RideLawsModel_seat_192 at e2
  rw [bnp_e (has_e1 φ v), k1] at e1
  rw [bnp_e (isseat_e _ v), show hf_up χ 192 0 0 194 1 = χ 194 1 from rfl] at e2
  by_cases c : 0 ≤ v ∧ v < χ 194 1
  · rw [if_pos c, if_pos (by decide)] at e1
    rw [if_pos (show 0 ≤ v ∧ v ≤ χ 194 1 - 1 by omega), if_pos (by decide)] at e2
    by_cases c0 : w = 0
    · rw [if_pos c0] at e1
      rw [if_neg (fun q => q c0)] at e2
      cases e2
      rw [← e1, show (11 + v).toNat = 11 + v.toNat by omega]
      exact (h.1.2.2.2.1 v.toNat (by omega)).1
    · rw [if_neg c0] at e1
      rw [if_pos c0] at e2
      by_cases c1 : w = 1
      · rw [if_pos c1] at e1
        rw [if_neg (fun q => q c1)] at e2
        cases e2
        rw [← e1, show (104 + v).toNat = 104 + v.toNat by omega]
        exact (h.2.1.2 v.toNat (by omega)).1
      · rw [if_neg c1] at e1
        rw [if_pos c1] at e2
        by_cases c2 : w = 2
        · rw [if_pos c2] at e1
          rw [if_neg (fun q => q c2)] at e2
          have hron := ron_17 (φ := φ) (χ := hf_up χ 192 0 0) (by show χ 194 3 ≤ 6; omega) h.2.1.1.2.1 (rol_z h.2.1) v.toNat (by omega)
          rw [show ((v.toNat : Nat) : Int) = v by omega] at hron
          rw [bnp_e hron] at e2
          cases e2
          exact e1.symm
        · rw [if_neg c2] at e1
          rw [if_pos c2] at e2
          cases e2
          exact e1.symm
  · rw [if_neg c, if_neg (fun q => q rfl)] at e1
    rw [if_neg (show ¬ (0 ≤ v ∧ v ≤ χ 194 1 - 1) by omega), if_neg (fun q => q rfl)] at e2
    cases e2
    exact e1.symm
theorem aimseat_q {φ χ ξ : hf_F} {r s : Int} (h : AIM φ χ) (e1 : F_RideLaws_aimSeat_0 φ = r) (e2 : F_RideLawsModel_aimSeat_192 χ = (s, ξ)) : r = s := by
  unfold AIM at h
  unfold F_RideLaws_aimSeat_0 at e1
  unfold F_RideLawsModel_aimSeat_192 at e2
  by_cases c : χ 192 24 = 0
  · rw [if_pos c] at h e2
    cases e2
    omega
  · rw [if_neg c] at h e2
    cases e2
    omega
theorem law_q {φ χ ξ : hf_F} {v w r s : Int} (hI : Inv χ) (h : SCR φ χ) (e1 : F_RideLaws_law_0 φ v w = r) (e2 : F_RideLawsModel_law_192 χ v w = (s, ξ)) : r = s := by
  have hbb := cb_i hI
  unfold CB at hbb
  have k4 : φ 6 4 = χ 194 4 := h.1.1.2.2.2.2
  unfold F_RideLaws_law_0 at e1
  unfold F_RideLawsModel_law_192 at e2
  rw [bnp_e (has_e4 φ v), k4] at e1
  rw [bnp_e (islaw_e _ v), show hf_up χ 192 0 0 194 4 = χ 194 4 from rfl] at e2
  by_cases c : 0 ≤ v ∧ v < χ 194 4
  · rw [if_pos c, if_pos (by decide)] at e1
    rw [if_pos (show 0 ≤ v ∧ v ≤ χ 194 4 - 1 by omega), if_pos (by decide), show (75 + v).toNat = 75 + v.toNat by omega, show (83 + v).toNat = 83 + v.toNat by omega, show (91 + v).toNat = 91 + v.toNat by omega, show (172 + v).toNat = 172 + v.toNat by omega] at e2
    obtain ⟨l1, l2, _⟩ := h.1.2.2.2.2.1 v.toNat (by omega)
    have l3 : φ 15 v.toNat = χ 194 (91 + v.toNat) := h.1.2.2.2.2.2.2 v.toNat (by omega)
    have l4 : φ 25 v.toNat = χ 194 (172 + v.toNat) := h.2.1.1.2.2.2 v.toNat (by omega)
    have l1' : φ 13 v.toNat = χ 194 (75 + v.toNat) := l1
    have l2' : φ 14 v.toNat = χ 194 (83 + v.toNat) := l2
    by_cases c0 : w = 0
    · rw [if_pos c0] at e1 e2
      cases e2; omega
    · rw [if_neg c0] at e1 e2
      by_cases c1 : w = 1
      · rw [if_pos c1] at e1 e2
        cases e2; omega
      · rw [if_neg c1] at e1 e2
        by_cases c2 : w = 2
        · rw [if_pos c2] at e1 e2
          cases e2
          have e : φ 17 3 = χ 194 102 := h.2.1.1.1.2.2.2.1
          unfold F_State_isHolding_17 at e1
          rw [bnp_e rfl, e] at e1
          have hr := hr_and1 (hb_shr (χ 194 102) v)
          by_cases c5 : hb_and (hb_shr (χ 194 102) v) 1 = 0
          · rw [if_pos c5, if_pos rfl] at e1; omega
          · rw [if_neg c5, if_neg (by decide)] at e1; omega
        · rw [if_neg c2] at e1 e2
          by_cases c3 : w = 3
          · rw [if_pos c3] at e1 e2
            cases e2; omega
          · rw [if_neg c3] at e1 e2
            by_cases c4 : w = 4
            · rw [if_pos c4] at e1 e2
              cases e2; omega
            · rw [if_neg c4] at e1 e2
              cases e2; omega
  · rw [if_neg c, if_neg (fun q => q rfl)] at e1
    rw [if_neg (show ¬ (0 ≤ v ∧ v ≤ χ 194 4 - 1) by omega), if_neg (fun q => q rfl)] at e2
    cases e2
    exact e1.symm
theorem roll_q {φ χ ξ : hf_F} {v w r s : Int} (hI : Inv χ) (h : SCR φ χ) (e1 : F_RideLaws_roll_0 φ v w = r) (e2 : F_RideLawsModel_roll_192 χ v w = (s, ξ)) : r = s := by
  have hbb := cb_i hI
  unfold CB at hbb
  have k3 : φ 6 3 = χ 194 3 := h.1.1.2.2.2.1
  unfold F_RideLaws_roll_0 at e1
  unfold F_RideLawsModel_roll_192 at e2
  rw [bnp_e (has_e3 φ v), k3] at e1
  rw [bnp_e (isrider_e _ v), show hf_up χ 192 0 0 194 3 = χ 194 3 from rfl] at e2
  by_cases c : 0 ≤ v ∧ v < χ 194 3
  · rw [if_pos c, if_neg (by decide)] at e1
    rw [if_pos (show 0 ≤ v ∧ v ≤ χ 194 3 - 1 by omega), if_neg (by decide), show (118 + v).toNat = 118 + v.toNat by omega, bnp_e (isin_e _ w _ _)] at e2
    obtain ⟨_, x2, _, _, _, _, x3, _, x4⟩ := h.2.1.1.2.2.1 v.toNat (by omega)
    have x2' : φ 21 v.toNat = χ 194 (118 + v.toNat) := x2
    rw [x2'] at e1
    by_cases c1 : 0 ≤ w ∧ w < χ 194 (118 + v.toNat)
    · rw [if_neg (show ¬ w < 0 by omega), if_pos c1.2, bnp_e rfl] at e1
      rw [if_pos (show 0 ≤ w ∧ w ≤ χ 194 (118 + v.toNat) - 1 by omega), if_neg (by decide)] at e2
      cases e2
      rw [← e1]
      unfold F_State_rollWord_17
      have := (x4 w.toNat (by omega)).1
      rw [show (v * 6 + w).toNat = 6 * v.toNat + w.toNat by omega, show (124 + 6 * v + w).toNat = 124 + 6 * v.toNat + w.toNat by omega]
      exact this
    · rw [if_neg (show ¬ (0 ≤ w ∧ w ≤ χ 194 (118 + v.toNat) - 1) by omega), if_pos rfl] at e2
      cases e2
      by_cases c2 : w < 0
      · rw [if_pos c2] at e1; omega
      · rw [if_neg c2, if_neg (show ¬ w < χ 194 (118 + v.toNat) by omega)] at e1; omega
  · rw [if_neg c, if_pos rfl] at e1
    rw [if_neg (show ¬ (0 ≤ v ∧ v ≤ χ 194 3 - 1) by omega), if_pos rfl] at e2
    cases e2
    exact e1.symm
