/-! said: the answer -/
theorem sai_e {φ χ0 : hf_F} (hJ : Inv φ) (hI : Inv χ0) (h : SCR φ χ0) (hN : SNR φ χ0) (h1 : ¬ φ 26 5 = 0) (r : Nat) (hr : r < 6) (χ : hf_F) (hf : ∀ b q : Nat, ¬ b = 204 → χ b q = χ0 b q) :
    ∃ ξ : hf_F, F_RideLawsModel_isSaid_192 χ (r : Int) = (F_Sentence_fits_26_17 φ (r : Int), ξ) ∧ ∀ b q : Nat, ¬ b = 204 → ξ b q = χ0 b q := by
  rcases hN with ⟨a1, _⟩ | ⟨_, a2, a3, a4, a5⟩
  · exact absurd a1 h1
  · have o3 := iv_at (a := 26) (k := 3) (lo := 0) (u := 40) hJ (by decide +kernel)
    have hK : ∀ i : Nat, i < 40 → 0 ≤ φ 27 i ∧ φ 27 i ≤ 22 := fun i hi2 => by
      have := iv_at (a := 27) (k := i) (lo := 0) (u := 22) hJ (ck_ivf_at (a := 27) (s := 0) (t := 40) (lo := 0) (u := 22) (z := (i : Int)) (by decide +kernel) (by omega) (by omega))
      exact this
    obtain ⟨ξ, x1, x2⟩ := sai_l hr h.2.1 a3 (by omega) a5 hK hI.2.2.1 a4 ((40 - 0 : Int).toNat + 1) ((45 - 0 : Int).toNat + 1) 0 0 χ (by decide) (by decide) (by show (0 : Int) ≤ _; omega) rfl (fun j hj => by omega) hf
    exact ⟨ξ, x1, x2⟩
theorem sad_l {φ χ0 : hf_F} (hJ : Inv φ) (hI : Inv χ0) (h : SCR φ χ0) (hN : SNR φ χ0) (h1 : ¬ φ 26 5 = 0) (v : Int) :
    ∀ (k m : Nat) (n r : Int) (χ : hf_F), 6 - r < (k : Int) → 6 - r < (m : Int) → 0 ≤ r → r ≤ 6 → (∀ b q : Nat, ¬ b = 204 → χ b q = χ0 b q) → (F_RideLawsModel_said_192_l27 m χ v n r).1 = F_RideLaws_said_0_l24 k φ v n r := by
  have hbb := cb_i hI
  unfold CB at hbb
  have k3 : φ 6 3 = χ0 194 3 := h.1.1.2.2.2.1
  intro k
  induction k with
  | zero => intro m n r χ g1 g2 g3 g4; omega
  | succ k ih =>
    intro m n r χ g1 g2 g3 g4 hf
    obtain ⟨m, rfl⟩ : ∃ j, m = j + 1 := ⟨m - 1, by omega⟩
    rw [F_RideLaws_said_0_l24_s, F_RideLawsModel_said_192_l27_s, k3, hf 194 3 (by decide)]
    by_cases c : χ0 194 3 ≤ r
    · rw [if_pos c, if_pos c]
      by_cases c2 : v = -1
      · rw [if_neg (show ¬ ¬ v = -1 from fun q => q c2), if_neg (show ¬ ¬ v = -1 from fun q => q c2)]
      · rw [if_pos (show ¬ v = -1 from c2), if_pos (show ¬ v = -1 from c2)]
    · rw [if_neg c, if_neg c]
      obtain ⟨ξ, x1, x2⟩ := sai_e hJ hI h hN h1 r.toNat (by omega) χ hf
      rw [show ((r.toNat : Nat) : Int) = r by omega] at x1
      rw [bnd_e x1, bnp_e rfl]
      by_cases c2 : F_Sentence_fits_26_17 φ r = 0
      · rw [if_neg (show ¬ ¬ F_Sentence_fits_26_17 φ r = 0 from fun q => q c2), if_pos c2]
        exact ih m n (r + 1) ξ (by omega) (by omega) (by omega) (by omega) x2
      · rw [if_pos (show ¬ F_Sentence_fits_26_17 φ r = 0 from c2), if_neg c2]
        by_cases c3 : n = v
        · rw [if_neg (show ¬ ¬ n = v from fun q => q c3), if_neg (show ¬ ¬ n = v from fun q => q c3)]
        · rw [if_pos (show ¬ n = v from c3), if_pos (show ¬ n = v from c3)]
          exact ih m (n + 1) (r + 1) ξ (by omega) (by omega) (by omega) (by omega) x2
theorem snr_f {φ χ φ' χ' : hf_F} (h : SNR φ χ) (h1 : SNQ φ φ') (h2 : ∀ k, 180 ≤ k → χ' 194 k = χ 194 k) : SNR φ' χ' := by
  obtain ⟨q1, q2, q3, q4, q5⟩ := h1
  have e180 : χ' 194 180 = χ 194 180 := h2 180 (by decide)
  rcases h with ⟨a1, a2⟩ | ⟨a1, a2, a3, a4, a5⟩
  · exact Or.inl ⟨q2.trans a1, e180.trans a2⟩
  · refine Or.inr ⟨q2.trans a1, by omega, by omega, ?_, fun i hi => ?_⟩
    · rw [e180, ← a4]
      exact cd_congr _ (fun j hj => h2 _ (by omega))
    · rw [h2 _ (by omega), h2 (181 + 3 * i + 1) (by omega), h2 (181 + 3 * i + 2) (by omega), q3, q4, q5]
      exact a5 i (by omega)
theorem said_q {φ χ ξ : hf_F} {v r s : Int} (hJ : Inv φ) (hI : Inv χ) (h : SCR φ χ) (hN : SNR φ χ) (e1 : F_RideLaws_said_0 φ v = r) (e2 : F_RideLawsModel_said_192 χ v = (s, ξ)) : r = s := by
  unfold F_RideLaws_said_0 at e1
  unfold F_RideLawsModel_said_192 at e2
  have hN' := hN
  rcases hN' with ⟨a1, a2⟩ | ⟨a1, a2, _⟩
  · rw [if_pos a1] at e1
    rw [if_pos a2] at e2
    cases e2
    exact e1.symm
  · rw [if_neg (show ¬ φ 26 5 = 0 by omega)] at e1
    rw [if_neg (show ¬ χ 194 180 = 0 by omega)] at e2
    by_cases c : (-1 : Int) ≤ v
    · rw [if_pos c] at e1 e2
      have h0 := scr_0 (cb_i hI) h
      have hN0 : SNR φ (hf_up χ 192 0 0) := snr_f hN ⟨rfl, rfl, fun _ => rfl, fun _ => rfl, fun _ => rfl⟩ (fun _ _ => rfl)
      have hl := sad_l hJ (inv_0 hI) h0 hN0 (by omega) v ((6 - 0 : Int).toNat + 1) ((6 - 0 : Int).toNat + 1) 0 0 (hf_up χ 192 0 0) (by decide) (by decide) (by decide) (by decide) (fun _ _ _ => rfl)
      rw [e2, e1] at hl
      exact hl.symm
    · rw [if_neg c] at e1 e2
      cases e2
      exact e1.symm
