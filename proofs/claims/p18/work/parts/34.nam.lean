/-! NAMES: both searches find the same -/
noncomputable def NMR (φ χ : hf_F) (a oa b ob : Nat) (n : Int) : Prop := ∀ i : Nat, (i : Int) < n → VW (φ a (oa + i)) ∧ χ b (ob + i) = G8 (φ a (oa + i))
noncomputable def FP (φ χ : hf_F) : Prop := φ 1 9 = χ 192 15 ∧ φ 1 10 = χ 192 16
theorem rp_w {φ χ : hf_F} (h : RP φ χ) (h2 : φ 1 5 = 2) : VW (φ 1 8) ∧ 1 ≤ φ 1 8 ∧ χ 192 17 = G8 (φ 1 8) ∧ χ 192 11 = 1 := by
  obtain ⟨_, _, _, _, _, hx⟩ := h
  rcases hx with ⟨x1, x2⟩ | ⟨x1, x2⟩ | ⟨x1, x2, x3⟩ | ⟨x1, x2, x3⟩ | ⟨x1, x2, x3, x4, x5⟩
  · omega
  · omega
  · omega
  · omega
  · exact ⟨x2, x3, x4, x1⟩
theorem g8_c {w c : Int} (h1 : VW w) (h2 : VW c) : (jm_cmp (G8 w) (G8 c) = 0) = (jm_cmp w c = 0) := by
  have a1 := G8_b _ h1.2.1
  have a2 := G8_b _ h2.2.1
  rw [cmp_e a1.1 a1.2 a2.1 a2.2, cmp_e h1.1 (by have := h1.2.1; omega) h2.1 (by have := h2.2.1; omega)]
  exact propext ⟨VW_i h1 h2, fun q => by rw [q]⟩
theorem rf_bad {φ χ ψ ξ : hf_F} {k r s : Int} (h : RP φ χ) (e1 : F_Reader_refuse_1 φ k = (r, ψ)) (e2 : F_RideLawsModel_bad_192 χ k = (s, ξ)) : r = 0 ∧ s = 0 ∧ FP ψ ξ := by
  have hx := h.2.2.2.2.1
  unfold F_Reader_refuse_1 at e1
  unfold F_RideLawsModel_bad_192 at e2
  cases e1
  cases e2
  exact ⟨rfl, rfl, rfl, hx⟩
theorem nof_31_0 : ∀ (n m : Nat) (φ χ : hf_F) (w i : Int), 8 - i < n → 8 - i < m → 0 ≤ i ∧ i ≤ 8 → φ 32 0 = χ 195 0 → φ 32 0 ≤ 8 → NMR φ χ 33 0 197 33 (χ 195 0) → VW w → χ 192 17 = G8 w →
    F_RideLawsModel_seek_192_l2 m χ 33 (χ 195 0) i = F_Plan_numberOf_31_k1_0_l3 n φ w i := by
  intro n
  induction n with
  | zero =>
    intro m φ χ w i h1 h2 h3 h4 h5 h6 h7 h8
    omega
  | succ n ih =>
    intro m φ χ w i h1 h2 h3 h4 h5 h6 h7 h8
    cases m with
    | zero => exfalso; omega
    | succ m =>
      rw [F_RideLawsModel_seek_192_l2_s, F_Plan_numberOf_31_k1_0_l3_s]
      by_cases c1 : χ 195 0 ≤ i
      · rw [if_pos c1, if_pos (by omega)]
      · rw [if_neg c1, if_neg (show ¬ φ 32 0 ≤ i by omega)]
        have hn := h6 i.toNat (by omega)
        have hc := g8_c hn.1 h7
        rw [← h8, ← hn.2] at hc
        rw [show (33 + i).toNat = 33 + i.toNat by omega, show (0 + i).toNat = 0 + i.toNat by omega]
        simp only [hc]
        by_cases c2 : jm_cmp (φ 33 (0 + i.toNat)) w = 0
        · rw [if_neg (fun q => q c2), if_neg (fun q => q c2)]
        · rw [if_pos c2, if_pos c2]
          exact ih m φ χ w (i + 1) (by omega) (by omega) (by omega) h4 h5 h6 h7 h8
theorem pn_31_0 {φ χ ψ ξ : hf_F} {r s : Int} (h : RP φ χ) (h4 : φ 32 0 = χ 195 0) (h5 : φ 32 0 ≤ 8) (h6 : NMR φ χ 33 0 197 33 (χ 195 0))
    (e1 : F_Reader_peekNamed_1_31_k2_0 φ = (r, ψ)) (e2 : F_RideLawsModel_looksAt_192 χ 33 (χ 195 0) = (s, ξ)) :
    (s = 1 ∧ 0 ≤ r ∧ r < χ 195 0 ∧ ψ = φ ∧ ξ = hf_up χ 192 18 r) ∨ (s = 0 ∧ r = -1 ∧ FP ψ ξ) := by
  unfold F_Reader_peekNamed_1_31_k2_0 at e1
  unfold F_RideLawsModel_looksAt_192 at e2
  have hz := isnm_z h
  by_cases c1 : φ 1 5 = 2
  · rw [if_pos c1] at e1
    have w := rp_w h c1
    have hnz : ¬ F_RideLawsModel_isName_192 χ = 0 := by rw [hz]; exact fun q => q c1
    rw [bnp_e rfl, if_pos hnz, bnp_e rfl] at e2
    rw [bnp_e rfl] at e1
    have hs : F_RideLawsModel_seek_192 χ 33 (χ 195 0) = F_Plan_numberOf_31_k1_0 φ (φ 1 8) := nof_31_0 9 9 φ χ (φ 1 8) 0 (by decide) (by decide) (by decide) h4 h5 h6 w.1 w.2.2.1
    rw [hs] at e2
    have hr := K_F_Plan_numberOf_31_k1_0 (r := F_Plan_numberOf_31_k1_0 φ (φ 1 8)) (v2 := φ 1 8) h.1.1 rfl
    generalize F_Plan_numberOf_31_k1_0 φ (φ 1 8) = z at e1 e2 hr
    by_cases c2 : z = -1
    · rw [if_neg (fun q => q c2)] at e1
      rw [if_neg (show ¬ 0 ≤ z by omega)] at e2
      obtain ⟨z5, ψ5, h5'⟩ : ∃ a b, F_Reader_refuse_1 φ 3 = (a, b) := ⟨_, _, rfl⟩
      obtain ⟨z6, ψ6, h6'⟩ : ∃ a b, F_RideLawsModel_bad_192 (hf_up χ 192 18 z) 3 = (a, b) := ⟨_, _, rfl⟩
      rw [bnd_e h5'] at e1
      rw [bnd_e h6'] at e2
      have hfp : z6 = 0 ∧ FP ψ5 ψ6 := by
        have hx := h.2.2.2.2.1
        unfold F_Reader_refuse_1 at h5'
        unfold F_RideLawsModel_bad_192 at h6'
        cases h5'
        cases h6'
        exact ⟨rfl, rfl, hx⟩
      rw [if_pos hfp.1] at e2
      cases e1
      cases e2
      exact Or.inr ⟨rfl, c2, hfp.2⟩
    · rw [if_pos c2] at e1
      rw [if_pos (show 0 ≤ z by omega)] at e2
      cases e1
      cases e2
      exact Or.inl ⟨rfl, by omega, by omega, rfl, rfl⟩
  · rw [if_neg c1] at e1
    have hnz : F_RideLawsModel_isName_192 χ = 0 := by rw [hz]; exact c1
    rw [bnp_e rfl, if_neg (fun q => q hnz)] at e2
    obtain ⟨z5, ψ5, h5'⟩ : ∃ a b, F_Reader_refuse_1 φ 1 = (a, b) := ⟨_, _, rfl⟩
    obtain ⟨z6, ψ6, h6'⟩ : ∃ a b, F_RideLawsModel_bad_192 χ 1 = (a, b) := ⟨_, _, rfl⟩
    rw [bnd_e h5'] at e1
    rw [bnd_e h6'] at e2
    have := rf_bad h h5' h6'
    cases e1
    cases e2
    exact Or.inr ⟨this.2.1, rfl, this.2.2⟩
theorem nof_31_1 : ∀ (n m : Nat) (φ χ : hf_F) (w i : Int), 8 - i < n → 8 - i < m → 0 ≤ i ∧ i ≤ 8 → φ 32 1 = χ 195 1 → φ 32 1 ≤ 8 → NMR φ χ 33 8 197 36 (χ 195 1) → VW w → χ 192 17 = G8 w →
    F_RideLawsModel_seek_192_l2 m χ 36 (χ 195 1) i = F_Plan_numberOf_31_k1_1_l3 n φ w i := by
  intro n
  induction n with
  | zero =>
    intro m φ χ w i h1 h2 h3 h4 h5 h6 h7 h8
    omega
  | succ n ih =>
    intro m φ χ w i h1 h2 h3 h4 h5 h6 h7 h8
    cases m with
    | zero => exfalso; omega
    | succ m =>
      rw [F_RideLawsModel_seek_192_l2_s, F_Plan_numberOf_31_k1_1_l3_s]
      by_cases c1 : χ 195 1 ≤ i
      · rw [if_pos c1, if_pos (by omega)]
      · rw [if_neg c1, if_neg (show ¬ φ 32 1 ≤ i by omega)]
        have hn := h6 i.toNat (by omega)
        have hc := g8_c hn.1 h7
        rw [← h8, ← hn.2] at hc
        rw [show (36 + i).toNat = 36 + i.toNat by omega, show (8 + i).toNat = 8 + i.toNat by omega]
        simp only [hc]
        by_cases c2 : jm_cmp (φ 33 (8 + i.toNat)) w = 0
        · rw [if_neg (fun q => q c2), if_neg (fun q => q c2)]
        · rw [if_pos c2, if_pos c2]
          exact ih m φ χ w (i + 1) (by omega) (by omega) (by omega) h4 h5 h6 h7 h8
theorem pn_31_1 {φ χ ψ ξ : hf_F} {r s : Int} (h : RP φ χ) (h4 : φ 32 1 = χ 195 1) (h5 : φ 32 1 ≤ 8) (h6 : NMR φ χ 33 8 197 36 (χ 195 1))
    (e1 : F_Reader_peekNamed_1_31_k2_1 φ = (r, ψ)) (e2 : F_RideLawsModel_looksAt_192 χ 36 (χ 195 1) = (s, ξ)) :
    (s = 1 ∧ 0 ≤ r ∧ r < χ 195 1 ∧ ψ = φ ∧ ξ = hf_up χ 192 18 r) ∨ (s = 0 ∧ r = -1 ∧ FP ψ ξ) := by
  unfold F_Reader_peekNamed_1_31_k2_1 at e1
  unfold F_RideLawsModel_looksAt_192 at e2
  have hz := isnm_z h
  by_cases c1 : φ 1 5 = 2
  · rw [if_pos c1] at e1
    have w := rp_w h c1
    have hnz : ¬ F_RideLawsModel_isName_192 χ = 0 := by rw [hz]; exact fun q => q c1
    rw [bnp_e rfl, if_pos hnz, bnp_e rfl] at e2
    rw [bnp_e rfl] at e1
    have hs : F_RideLawsModel_seek_192 χ 36 (χ 195 1) = F_Plan_numberOf_31_k1_1 φ (φ 1 8) := nof_31_1 9 9 φ χ (φ 1 8) 0 (by decide) (by decide) (by decide) h4 h5 h6 w.1 w.2.2.1
    rw [hs] at e2
    have hr := K_F_Plan_numberOf_31_k1_1 (r := F_Plan_numberOf_31_k1_1 φ (φ 1 8)) (v2 := φ 1 8) h.1.1 rfl
    generalize F_Plan_numberOf_31_k1_1 φ (φ 1 8) = z at e1 e2 hr
    by_cases c2 : z = -1
    · rw [if_neg (fun q => q c2)] at e1
      rw [if_neg (show ¬ 0 ≤ z by omega)] at e2
      obtain ⟨z5, ψ5, h5'⟩ : ∃ a b, F_Reader_refuse_1 φ 3 = (a, b) := ⟨_, _, rfl⟩
      obtain ⟨z6, ψ6, h6'⟩ : ∃ a b, F_RideLawsModel_bad_192 (hf_up χ 192 18 z) 3 = (a, b) := ⟨_, _, rfl⟩
      rw [bnd_e h5'] at e1
      rw [bnd_e h6'] at e2
      have hfp : z6 = 0 ∧ FP ψ5 ψ6 := by
        have hx := h.2.2.2.2.1
        unfold F_Reader_refuse_1 at h5'
        unfold F_RideLawsModel_bad_192 at h6'
        cases h5'
        cases h6'
        exact ⟨rfl, rfl, hx⟩
      rw [if_pos hfp.1] at e2
      cases e1
      cases e2
      exact Or.inr ⟨rfl, c2, hfp.2⟩
    · rw [if_pos c2] at e1
      rw [if_pos (show 0 ≤ z by omega)] at e2
      cases e1
      cases e2
      exact Or.inl ⟨rfl, by omega, by omega, rfl, rfl⟩
  · rw [if_neg c1] at e1
    have hnz : F_RideLawsModel_isName_192 χ = 0 := by rw [hz]; exact c1
    rw [bnp_e rfl, if_neg (fun q => q hnz)] at e2
    obtain ⟨z5, ψ5, h5'⟩ : ∃ a b, F_Reader_refuse_1 φ 1 = (a, b) := ⟨_, _, rfl⟩
    obtain ⟨z6, ψ6, h6'⟩ : ∃ a b, F_RideLawsModel_bad_192 χ 1 = (a, b) := ⟨_, _, rfl⟩
    rw [bnd_e h5'] at e1
    rw [bnd_e h6'] at e2
    have := rf_bad h h5' h6'
    cases e1
    cases e2
    exact Or.inr ⟨this.2.1, rfl, this.2.2⟩
theorem nof_31_2 : ∀ (n m : Nat) (φ χ : hf_F) (w i : Int), 8 - i < n → 8 - i < m → 0 ≤ i ∧ i ≤ 8 → φ 32 2 = χ 195 2 → φ 32 2 ≤ 8 → NMR φ χ 33 16 197 44 (χ 195 2) → VW w → χ 192 17 = G8 w →
    F_RideLawsModel_seek_192_l2 m χ 44 (χ 195 2) i = F_Plan_numberOf_31_k1_2_l3 n φ w i := by
  intro n
  induction n with
  | zero =>
    intro m φ χ w i h1 h2 h3 h4 h5 h6 h7 h8
    omega
  | succ n ih =>
    intro m φ χ w i h1 h2 h3 h4 h5 h6 h7 h8
    cases m with
    | zero => exfalso; omega
    | succ m =>
      rw [F_RideLawsModel_seek_192_l2_s, F_Plan_numberOf_31_k1_2_l3_s]
      by_cases c1 : χ 195 2 ≤ i
      · rw [if_pos c1, if_pos (by omega)]
      · rw [if_neg c1, if_neg (show ¬ φ 32 2 ≤ i by omega)]
        have hn := h6 i.toNat (by omega)
        have hc := g8_c hn.1 h7
        rw [← h8, ← hn.2] at hc
        rw [show (44 + i).toNat = 44 + i.toNat by omega, show (16 + i).toNat = 16 + i.toNat by omega]
        simp only [hc]
        by_cases c2 : jm_cmp (φ 33 (16 + i.toNat)) w = 0
        · rw [if_neg (fun q => q c2), if_neg (fun q => q c2)]
        · rw [if_pos c2, if_pos c2]
          exact ih m φ χ w (i + 1) (by omega) (by omega) (by omega) h4 h5 h6 h7 h8
theorem pn_31_2 {φ χ ψ ξ : hf_F} {r s : Int} (h : RP φ χ) (h4 : φ 32 2 = χ 195 2) (h5 : φ 32 2 ≤ 8) (h6 : NMR φ χ 33 16 197 44 (χ 195 2))
    (e1 : F_Reader_peekNamed_1_31_k2_2 φ = (r, ψ)) (e2 : F_RideLawsModel_looksAt_192 χ 44 (χ 195 2) = (s, ξ)) :
    (s = 1 ∧ 0 ≤ r ∧ r < χ 195 2 ∧ ψ = φ ∧ ξ = hf_up χ 192 18 r) ∨ (s = 0 ∧ r = -1 ∧ FP ψ ξ) := by
  unfold F_Reader_peekNamed_1_31_k2_2 at e1
  unfold F_RideLawsModel_looksAt_192 at e2
  have hz := isnm_z h
  by_cases c1 : φ 1 5 = 2
  · rw [if_pos c1] at e1
    have w := rp_w h c1
    have hnz : ¬ F_RideLawsModel_isName_192 χ = 0 := by rw [hz]; exact fun q => q c1
    rw [bnp_e rfl, if_pos hnz, bnp_e rfl] at e2
    rw [bnp_e rfl] at e1
    have hs : F_RideLawsModel_seek_192 χ 44 (χ 195 2) = F_Plan_numberOf_31_k1_2 φ (φ 1 8) := nof_31_2 9 9 φ χ (φ 1 8) 0 (by decide) (by decide) (by decide) h4 h5 h6 w.1 w.2.2.1
    rw [hs] at e2
    have hr := K_F_Plan_numberOf_31_k1_2 (r := F_Plan_numberOf_31_k1_2 φ (φ 1 8)) (v2 := φ 1 8) h.1.1 rfl
    generalize F_Plan_numberOf_31_k1_2 φ (φ 1 8) = z at e1 e2 hr
    by_cases c2 : z = -1
    · rw [if_neg (fun q => q c2)] at e1
      rw [if_neg (show ¬ 0 ≤ z by omega)] at e2
      obtain ⟨z5, ψ5, h5'⟩ : ∃ a b, F_Reader_refuse_1 φ 3 = (a, b) := ⟨_, _, rfl⟩
      obtain ⟨z6, ψ6, h6'⟩ : ∃ a b, F_RideLawsModel_bad_192 (hf_up χ 192 18 z) 3 = (a, b) := ⟨_, _, rfl⟩
      rw [bnd_e h5'] at e1
      rw [bnd_e h6'] at e2
      have hfp : z6 = 0 ∧ FP ψ5 ψ6 := by
        have hx := h.2.2.2.2.1
        unfold F_Reader_refuse_1 at h5'
        unfold F_RideLawsModel_bad_192 at h6'
        cases h5'
        cases h6'
        exact ⟨rfl, rfl, hx⟩
      rw [if_pos hfp.1] at e2
      cases e1
      cases e2
      exact Or.inr ⟨rfl, c2, hfp.2⟩
    · rw [if_pos c2] at e1
      rw [if_pos (show 0 ≤ z by omega)] at e2
      cases e1
      cases e2
      exact Or.inl ⟨rfl, by omega, by omega, rfl, rfl⟩
  · rw [if_neg c1] at e1
    have hnz : F_RideLawsModel_isName_192 χ = 0 := by rw [hz]; exact c1
    rw [bnp_e rfl, if_neg (fun q => q hnz)] at e2
    obtain ⟨z5, ψ5, h5'⟩ : ∃ a b, F_Reader_refuse_1 φ 1 = (a, b) := ⟨_, _, rfl⟩
    obtain ⟨z6, ψ6, h6'⟩ : ∃ a b, F_RideLawsModel_bad_192 χ 1 = (a, b) := ⟨_, _, rfl⟩
    rw [bnd_e h5'] at e1
    rw [bnd_e h6'] at e2
    have := rf_bad h h5' h6'
    cases e1
    cases e2
    exact Or.inr ⟨this.2.1, rfl, this.2.2⟩
theorem nof_31_3 : ∀ (n m : Nat) (φ χ : hf_F) (w i : Int), 8 - i < n → 8 - i < m → 0 ≤ i ∧ i ≤ 8 → φ 32 3 = χ 195 3 → φ 32 3 ≤ 8 → NMR φ χ 33 24 197 52 (χ 195 3) → VW w → χ 192 17 = G8 w →
    F_RideLawsModel_seek_192_l2 m χ 52 (χ 195 3) i = F_Plan_numberOf_31_k1_3_l3 n φ w i := by
  intro n
  induction n with
  | zero =>
    intro m φ χ w i h1 h2 h3 h4 h5 h6 h7 h8
    omega
  | succ n ih =>
    intro m φ χ w i h1 h2 h3 h4 h5 h6 h7 h8
    cases m with
    | zero => exfalso; omega
    | succ m =>
      rw [F_RideLawsModel_seek_192_l2_s, F_Plan_numberOf_31_k1_3_l3_s]
      by_cases c1 : χ 195 3 ≤ i
      · rw [if_pos c1, if_pos (by omega)]
      · rw [if_neg c1, if_neg (show ¬ φ 32 3 ≤ i by omega)]
        have hn := h6 i.toNat (by omega)
        have hc := g8_c hn.1 h7
        rw [← h8, ← hn.2] at hc
        rw [show (52 + i).toNat = 52 + i.toNat by omega, show (24 + i).toNat = 24 + i.toNat by omega]
        simp only [hc]
        by_cases c2 : jm_cmp (φ 33 (24 + i.toNat)) w = 0
        · rw [if_neg (fun q => q c2), if_neg (fun q => q c2)]
        · rw [if_pos c2, if_pos c2]
          exact ih m φ χ w (i + 1) (by omega) (by omega) (by omega) h4 h5 h6 h7 h8
theorem pn_31_3 {φ χ ψ ξ : hf_F} {r s : Int} (h : RP φ χ) (h4 : φ 32 3 = χ 195 3) (h5 : φ 32 3 ≤ 8) (h6 : NMR φ χ 33 24 197 52 (χ 195 3))
    (e1 : F_Reader_peekNamed_1_31_k2_3 φ = (r, ψ)) (e2 : F_RideLawsModel_looksAt_192 χ 52 (χ 195 3) = (s, ξ)) :
    (s = 1 ∧ 0 ≤ r ∧ r < χ 195 3 ∧ ψ = φ ∧ ξ = hf_up χ 192 18 r) ∨ (s = 0 ∧ r = -1 ∧ FP ψ ξ) := by
  unfold F_Reader_peekNamed_1_31_k2_3 at e1
  unfold F_RideLawsModel_looksAt_192 at e2
  have hz := isnm_z h
  by_cases c1 : φ 1 5 = 2
  · rw [if_pos c1] at e1
    have w := rp_w h c1
    have hnz : ¬ F_RideLawsModel_isName_192 χ = 0 := by rw [hz]; exact fun q => q c1
    rw [bnp_e rfl, if_pos hnz, bnp_e rfl] at e2
    rw [bnp_e rfl] at e1
    have hs : F_RideLawsModel_seek_192 χ 52 (χ 195 3) = F_Plan_numberOf_31_k1_3 φ (φ 1 8) := nof_31_3 9 9 φ χ (φ 1 8) 0 (by decide) (by decide) (by decide) h4 h5 h6 w.1 w.2.2.1
    rw [hs] at e2
    have hr := K_F_Plan_numberOf_31_k1_3 (r := F_Plan_numberOf_31_k1_3 φ (φ 1 8)) (v2 := φ 1 8) h.1.1 rfl
    generalize F_Plan_numberOf_31_k1_3 φ (φ 1 8) = z at e1 e2 hr
    by_cases c2 : z = -1
    · rw [if_neg (fun q => q c2)] at e1
      rw [if_neg (show ¬ 0 ≤ z by omega)] at e2
      obtain ⟨z5, ψ5, h5'⟩ : ∃ a b, F_Reader_refuse_1 φ 3 = (a, b) := ⟨_, _, rfl⟩
      obtain ⟨z6, ψ6, h6'⟩ : ∃ a b, F_RideLawsModel_bad_192 (hf_up χ 192 18 z) 3 = (a, b) := ⟨_, _, rfl⟩
      rw [bnd_e h5'] at e1
      rw [bnd_e h6'] at e2
      have hfp : z6 = 0 ∧ FP ψ5 ψ6 := by
        have hx := h.2.2.2.2.1
        unfold F_Reader_refuse_1 at h5'
        unfold F_RideLawsModel_bad_192 at h6'
        cases h5'
        cases h6'
        exact ⟨rfl, rfl, hx⟩
      rw [if_pos hfp.1] at e2
      cases e1
      cases e2
      exact Or.inr ⟨rfl, c2, hfp.2⟩
    · rw [if_pos c2] at e1
      rw [if_pos (show 0 ≤ z by omega)] at e2
      cases e1
      cases e2
      exact Or.inl ⟨rfl, by omega, by omega, rfl, rfl⟩
  · rw [if_neg c1] at e1
    have hnz : F_RideLawsModel_isName_192 χ = 0 := by rw [hz]; exact c1
    rw [bnp_e rfl, if_neg (fun q => q hnz)] at e2
    obtain ⟨z5, ψ5, h5'⟩ : ∃ a b, F_Reader_refuse_1 φ 1 = (a, b) := ⟨_, _, rfl⟩
    obtain ⟨z6, ψ6, h6'⟩ : ∃ a b, F_RideLawsModel_bad_192 χ 1 = (a, b) := ⟨_, _, rfl⟩
    rw [bnd_e h5'] at e1
    rw [bnd_e h6'] at e2
    have := rf_bad h h5' h6'
    cases e1
    cases e2
    exact Or.inr ⟨this.2.1, rfl, this.2.2⟩
theorem nof_31_4 : ∀ (n m : Nat) (φ χ : hf_F) (w i : Int), 8 - i < n → 8 - i < m → 0 ≤ i ∧ i ≤ 8 → φ 32 4 = χ 195 4 → φ 32 4 ≤ 8 → NMR φ χ 33 32 197 58 (χ 195 4) → VW w → χ 192 17 = G8 w →
    F_RideLawsModel_seek_192_l2 m χ 58 (χ 195 4) i = F_Plan_numberOf_31_k1_4_l3 n φ w i := by
  intro n
  induction n with
  | zero =>
    intro m φ χ w i h1 h2 h3 h4 h5 h6 h7 h8
    omega
  | succ n ih =>
    intro m φ χ w i h1 h2 h3 h4 h5 h6 h7 h8
    cases m with
    | zero => exfalso; omega
    | succ m =>
      rw [F_RideLawsModel_seek_192_l2_s, F_Plan_numberOf_31_k1_4_l3_s]
      by_cases c1 : χ 195 4 ≤ i
      · rw [if_pos c1, if_pos (by omega)]
      · rw [if_neg c1, if_neg (show ¬ φ 32 4 ≤ i by omega)]
        have hn := h6 i.toNat (by omega)
        have hc := g8_c hn.1 h7
        rw [← h8, ← hn.2] at hc
        rw [show (58 + i).toNat = 58 + i.toNat by omega, show (32 + i).toNat = 32 + i.toNat by omega]
        simp only [hc]
        by_cases c2 : jm_cmp (φ 33 (32 + i.toNat)) w = 0
        · rw [if_neg (fun q => q c2), if_neg (fun q => q c2)]
        · rw [if_pos c2, if_pos c2]
          exact ih m φ χ w (i + 1) (by omega) (by omega) (by omega) h4 h5 h6 h7 h8
theorem pn_31_4 {φ χ ψ ξ : hf_F} {r s : Int} (h : RP φ χ) (h4 : φ 32 4 = χ 195 4) (h5 : φ 32 4 ≤ 8) (h6 : NMR φ χ 33 32 197 58 (χ 195 4))
    (e1 : F_Reader_peekNamed_1_31_k2_4 φ = (r, ψ)) (e2 : F_RideLawsModel_looksAt_192 χ 58 (χ 195 4) = (s, ξ)) :
    (s = 1 ∧ 0 ≤ r ∧ r < χ 195 4 ∧ ψ = φ ∧ ξ = hf_up χ 192 18 r) ∨ (s = 0 ∧ r = -1 ∧ FP ψ ξ) := by
  unfold F_Reader_peekNamed_1_31_k2_4 at e1
  unfold F_RideLawsModel_looksAt_192 at e2
  have hz := isnm_z h
  by_cases c1 : φ 1 5 = 2
  · rw [if_pos c1] at e1
    have w := rp_w h c1
    have hnz : ¬ F_RideLawsModel_isName_192 χ = 0 := by rw [hz]; exact fun q => q c1
    rw [bnp_e rfl, if_pos hnz, bnp_e rfl] at e2
    rw [bnp_e rfl] at e1
    have hs : F_RideLawsModel_seek_192 χ 58 (χ 195 4) = F_Plan_numberOf_31_k1_4 φ (φ 1 8) := nof_31_4 9 9 φ χ (φ 1 8) 0 (by decide) (by decide) (by decide) h4 h5 h6 w.1 w.2.2.1
    rw [hs] at e2
    have hr := K_F_Plan_numberOf_31_k1_4 (r := F_Plan_numberOf_31_k1_4 φ (φ 1 8)) (v2 := φ 1 8) h.1.1 rfl
    generalize F_Plan_numberOf_31_k1_4 φ (φ 1 8) = z at e1 e2 hr
    by_cases c2 : z = -1
    · rw [if_neg (fun q => q c2)] at e1
      rw [if_neg (show ¬ 0 ≤ z by omega)] at e2
      obtain ⟨z5, ψ5, h5'⟩ : ∃ a b, F_Reader_refuse_1 φ 3 = (a, b) := ⟨_, _, rfl⟩
      obtain ⟨z6, ψ6, h6'⟩ : ∃ a b, F_RideLawsModel_bad_192 (hf_up χ 192 18 z) 3 = (a, b) := ⟨_, _, rfl⟩
      rw [bnd_e h5'] at e1
      rw [bnd_e h6'] at e2
      have hfp : z6 = 0 ∧ FP ψ5 ψ6 := by
        have hx := h.2.2.2.2.1
        unfold F_Reader_refuse_1 at h5'
        unfold F_RideLawsModel_bad_192 at h6'
        cases h5'
        cases h6'
        exact ⟨rfl, rfl, hx⟩
      rw [if_pos hfp.1] at e2
      cases e1
      cases e2
      exact Or.inr ⟨rfl, c2, hfp.2⟩
    · rw [if_pos c2] at e1
      rw [if_pos (show 0 ≤ z by omega)] at e2
      cases e1
      cases e2
      exact Or.inl ⟨rfl, by omega, by omega, rfl, rfl⟩
  · rw [if_neg c1] at e1
    have hnz : F_RideLawsModel_isName_192 χ = 0 := by rw [hz]; exact c1
    rw [bnp_e rfl, if_neg (fun q => q hnz)] at e2
    obtain ⟨z5, ψ5, h5'⟩ : ∃ a b, F_Reader_refuse_1 φ 1 = (a, b) := ⟨_, _, rfl⟩
    obtain ⟨z6, ψ6, h6'⟩ : ∃ a b, F_RideLawsModel_bad_192 χ 1 = (a, b) := ⟨_, _, rfl⟩
    rw [bnd_e h5'] at e1
    rw [bnd_e h6'] at e2
    have := rf_bad h h5' h6'
    cases e1
    cases e2
    exact Or.inr ⟨this.2.1, rfl, this.2.2⟩
theorem nof_5_1 : ∀ (n m : Nat) (φ χ : hf_F) (w i : Int), 8 - i < n → 8 - i < m → 0 ≤ i ∧ i ≤ 8 → φ 6 1 = χ 194 1 → φ 6 1 ≤ 8 → NMR φ χ 7 8 197 3 (χ 194 1) → VW w → χ 192 17 = G8 w →
    F_RideLawsModel_seek_192_l2 m χ 3 (χ 194 1) i = F_Plan_numberOf_5_k1_1_l3 n φ w i := by
  intro n
  induction n with
  | zero =>
    intro m φ χ w i h1 h2 h3 h4 h5 h6 h7 h8
    omega
  | succ n ih =>
    intro m φ χ w i h1 h2 h3 h4 h5 h6 h7 h8
    cases m with
    | zero => exfalso; omega
    | succ m =>
      rw [F_RideLawsModel_seek_192_l2_s, F_Plan_numberOf_5_k1_1_l3_s]
      by_cases c1 : χ 194 1 ≤ i
      · rw [if_pos c1, if_pos (by omega)]
      · rw [if_neg c1, if_neg (show ¬ φ 6 1 ≤ i by omega)]
        have hn := h6 i.toNat (by omega)
        have hc := g8_c hn.1 h7
        rw [← h8, ← hn.2] at hc
        rw [show (3 + i).toNat = 3 + i.toNat by omega, show (8 + i).toNat = 8 + i.toNat by omega]
        simp only [hc]
        by_cases c2 : jm_cmp (φ 7 (8 + i.toNat)) w = 0
        · rw [if_neg (fun q => q c2), if_neg (fun q => q c2)]
        · rw [if_pos c2, if_pos c2]
          exact ih m φ χ w (i + 1) (by omega) (by omega) (by omega) h4 h5 h6 h7 h8
theorem pn_5_1 {φ χ ψ ξ : hf_F} {r s : Int} (h : RP φ χ) (h4 : φ 6 1 = χ 194 1) (h5 : φ 6 1 ≤ 8) (h6 : NMR φ χ 7 8 197 3 (χ 194 1))
    (e1 : F_Reader_peekNamed_1_5_k2_1 φ = (r, ψ)) (e2 : F_RideLawsModel_looksAt_192 χ 3 (χ 194 1) = (s, ξ)) :
    (s = 1 ∧ 0 ≤ r ∧ r < χ 194 1 ∧ ψ = φ ∧ ξ = hf_up χ 192 18 r) ∨ (s = 0 ∧ r = -1 ∧ FP ψ ξ) := by
  unfold F_Reader_peekNamed_1_5_k2_1 at e1
  unfold F_RideLawsModel_looksAt_192 at e2
  have hz := isnm_z h
  by_cases c1 : φ 1 5 = 2
  · rw [if_pos c1] at e1
    have w := rp_w h c1
    have hnz : ¬ F_RideLawsModel_isName_192 χ = 0 := by rw [hz]; exact fun q => q c1
    rw [bnp_e rfl, if_pos hnz, bnp_e rfl] at e2
    rw [bnp_e rfl] at e1
    have hs : F_RideLawsModel_seek_192 χ 3 (χ 194 1) = F_Plan_numberOf_5_k1_1 φ (φ 1 8) := nof_5_1 9 9 φ χ (φ 1 8) 0 (by decide) (by decide) (by decide) h4 h5 h6 w.1 w.2.2.1
    rw [hs] at e2
    have hr := K_F_Plan_numberOf_5_k1_1 (r := F_Plan_numberOf_5_k1_1 φ (φ 1 8)) (v2 := φ 1 8) h.1.1 rfl
    generalize F_Plan_numberOf_5_k1_1 φ (φ 1 8) = z at e1 e2 hr
    by_cases c2 : z = -1
    · rw [if_neg (fun q => q c2)] at e1
      rw [if_neg (show ¬ 0 ≤ z by omega)] at e2
      obtain ⟨z5, ψ5, h5'⟩ : ∃ a b, F_Reader_refuse_1 φ 3 = (a, b) := ⟨_, _, rfl⟩
      obtain ⟨z6, ψ6, h6'⟩ : ∃ a b, F_RideLawsModel_bad_192 (hf_up χ 192 18 z) 3 = (a, b) := ⟨_, _, rfl⟩
      rw [bnd_e h5'] at e1
      rw [bnd_e h6'] at e2
      have hfp : z6 = 0 ∧ FP ψ5 ψ6 := by
        have hx := h.2.2.2.2.1
        unfold F_Reader_refuse_1 at h5'
        unfold F_RideLawsModel_bad_192 at h6'
        cases h5'
        cases h6'
        exact ⟨rfl, rfl, hx⟩
      rw [if_pos hfp.1] at e2
      cases e1
      cases e2
      exact Or.inr ⟨rfl, c2, hfp.2⟩
    · rw [if_pos c2] at e1
      rw [if_pos (show 0 ≤ z by omega)] at e2
      cases e1
      cases e2
      exact Or.inl ⟨rfl, by omega, by omega, rfl, rfl⟩
  · rw [if_neg c1] at e1
    have hnz : F_RideLawsModel_isName_192 χ = 0 := by rw [hz]; exact c1
    rw [bnp_e rfl, if_neg (fun q => q hnz)] at e2
    obtain ⟨z5, ψ5, h5'⟩ : ∃ a b, F_Reader_refuse_1 φ 1 = (a, b) := ⟨_, _, rfl⟩
    obtain ⟨z6, ψ6, h6'⟩ : ∃ a b, F_RideLawsModel_bad_192 χ 1 = (a, b) := ⟨_, _, rfl⟩
    rw [bnd_e h5'] at e1
    rw [bnd_e h6'] at e2
    have := rf_bad h h5' h6'
    cases e1
    cases e2
    exact Or.inr ⟨this.2.1, rfl, this.2.2⟩
theorem nof_5_2 : ∀ (n m : Nat) (φ χ : hf_F) (w i : Int), 8 - i < n → 8 - i < m → 0 ≤ i ∧ i ≤ 8 → φ 6 2 = χ 194 2 → φ 6 2 ≤ 8 → NMR φ χ 7 16 197 11 (χ 194 2) → VW w → χ 192 17 = G8 w →
    F_RideLawsModel_seek_192_l2 m χ 11 (χ 194 2) i = F_Plan_numberOf_5_k1_2_l3 n φ w i := by
  intro n
  induction n with
  | zero =>
    intro m φ χ w i h1 h2 h3 h4 h5 h6 h7 h8
    omega
  | succ n ih =>
    intro m φ χ w i h1 h2 h3 h4 h5 h6 h7 h8
    cases m with
    | zero => exfalso; omega
    | succ m =>
      rw [F_RideLawsModel_seek_192_l2_s, F_Plan_numberOf_5_k1_2_l3_s]
      by_cases c1 : χ 194 2 ≤ i
      · rw [if_pos c1, if_pos (by omega)]
      · rw [if_neg c1, if_neg (show ¬ φ 6 2 ≤ i by omega)]
        have hn := h6 i.toNat (by omega)
        have hc := g8_c hn.1 h7
        rw [← h8, ← hn.2] at hc
        rw [show (11 + i).toNat = 11 + i.toNat by omega, show (16 + i).toNat = 16 + i.toNat by omega]
        simp only [hc]
        by_cases c2 : jm_cmp (φ 7 (16 + i.toNat)) w = 0
        · rw [if_neg (fun q => q c2), if_neg (fun q => q c2)]
        · rw [if_pos c2, if_pos c2]
          exact ih m φ χ w (i + 1) (by omega) (by omega) (by omega) h4 h5 h6 h7 h8
theorem pn_5_2 {φ χ ψ ξ : hf_F} {r s : Int} (h : RP φ χ) (h4 : φ 6 2 = χ 194 2) (h5 : φ 6 2 ≤ 8) (h6 : NMR φ χ 7 16 197 11 (χ 194 2))
    (e1 : F_Reader_peekNamed_1_5_k2_2 φ = (r, ψ)) (e2 : F_RideLawsModel_looksAt_192 χ 11 (χ 194 2) = (s, ξ)) :
    (s = 1 ∧ 0 ≤ r ∧ r < χ 194 2 ∧ ψ = φ ∧ ξ = hf_up χ 192 18 r) ∨ (s = 0 ∧ r = -1 ∧ FP ψ ξ) := by
  unfold F_Reader_peekNamed_1_5_k2_2 at e1
  unfold F_RideLawsModel_looksAt_192 at e2
  have hz := isnm_z h
  by_cases c1 : φ 1 5 = 2
  · rw [if_pos c1] at e1
    have w := rp_w h c1
    have hnz : ¬ F_RideLawsModel_isName_192 χ = 0 := by rw [hz]; exact fun q => q c1
    rw [bnp_e rfl, if_pos hnz, bnp_e rfl] at e2
    rw [bnp_e rfl] at e1
    have hs : F_RideLawsModel_seek_192 χ 11 (χ 194 2) = F_Plan_numberOf_5_k1_2 φ (φ 1 8) := nof_5_2 9 9 φ χ (φ 1 8) 0 (by decide) (by decide) (by decide) h4 h5 h6 w.1 w.2.2.1
    rw [hs] at e2
    have hr := K_F_Plan_numberOf_5_k1_2 (r := F_Plan_numberOf_5_k1_2 φ (φ 1 8)) (v2 := φ 1 8) h.1.1 rfl
    generalize F_Plan_numberOf_5_k1_2 φ (φ 1 8) = z at e1 e2 hr
    by_cases c2 : z = -1
    · rw [if_neg (fun q => q c2)] at e1
      rw [if_neg (show ¬ 0 ≤ z by omega)] at e2
      obtain ⟨z5, ψ5, h5'⟩ : ∃ a b, F_Reader_refuse_1 φ 3 = (a, b) := ⟨_, _, rfl⟩
      obtain ⟨z6, ψ6, h6'⟩ : ∃ a b, F_RideLawsModel_bad_192 (hf_up χ 192 18 z) 3 = (a, b) := ⟨_, _, rfl⟩
      rw [bnd_e h5'] at e1
      rw [bnd_e h6'] at e2
      have hfp : z6 = 0 ∧ FP ψ5 ψ6 := by
        have hx := h.2.2.2.2.1
        unfold F_Reader_refuse_1 at h5'
        unfold F_RideLawsModel_bad_192 at h6'
        cases h5'
        cases h6'
        exact ⟨rfl, rfl, hx⟩
      rw [if_pos hfp.1] at e2
      cases e1
      cases e2
      exact Or.inr ⟨rfl, c2, hfp.2⟩
    · rw [if_pos c2] at e1
      rw [if_pos (show 0 ≤ z by omega)] at e2
      cases e1
      cases e2
      exact Or.inl ⟨rfl, by omega, by omega, rfl, rfl⟩
  · rw [if_neg c1] at e1
    have hnz : F_RideLawsModel_isName_192 χ = 0 := by rw [hz]; exact c1
    rw [bnp_e rfl, if_neg (fun q => q hnz)] at e2
    obtain ⟨z5, ψ5, h5'⟩ : ∃ a b, F_Reader_refuse_1 φ 1 = (a, b) := ⟨_, _, rfl⟩
    obtain ⟨z6, ψ6, h6'⟩ : ∃ a b, F_RideLawsModel_bad_192 χ 1 = (a, b) := ⟨_, _, rfl⟩
    rw [bnd_e h5'] at e1
    rw [bnd_e h6'] at e2
    have := rf_bad h h5' h6'
    cases e1
    cases e2
    exact Or.inr ⟨this.2.1, rfl, this.2.2⟩
theorem nof_5_3 : ∀ (n m : Nat) (φ χ : hf_F) (w i : Int), 8 - i < n → 8 - i < m → 0 ≤ i ∧ i ≤ 8 → φ 6 3 = χ 194 3 → φ 6 3 ≤ 8 → NMR φ χ 7 24 197 19 (χ 194 3) → VW w → χ 192 17 = G8 w →
    F_RideLawsModel_seek_192_l2 m χ 19 (χ 194 3) i = F_Plan_numberOf_5_k1_3_l3 n φ w i := by
  intro n
  induction n with
  | zero =>
    intro m φ χ w i h1 h2 h3 h4 h5 h6 h7 h8
    omega
  | succ n ih =>
    intro m φ χ w i h1 h2 h3 h4 h5 h6 h7 h8
    cases m with
    | zero => exfalso; omega
    | succ m =>
      rw [F_RideLawsModel_seek_192_l2_s, F_Plan_numberOf_5_k1_3_l3_s]
      by_cases c1 : χ 194 3 ≤ i
      · rw [if_pos c1, if_pos (by omega)]
      · rw [if_neg c1, if_neg (show ¬ φ 6 3 ≤ i by omega)]
        have hn := h6 i.toNat (by omega)
        have hc := g8_c hn.1 h7
        rw [← h8, ← hn.2] at hc
        rw [show (19 + i).toNat = 19 + i.toNat by omega, show (24 + i).toNat = 24 + i.toNat by omega]
        simp only [hc]
        by_cases c2 : jm_cmp (φ 7 (24 + i.toNat)) w = 0
        · rw [if_neg (fun q => q c2), if_neg (fun q => q c2)]
        · rw [if_pos c2, if_pos c2]
          exact ih m φ χ w (i + 1) (by omega) (by omega) (by omega) h4 h5 h6 h7 h8
theorem pn_5_3 {φ χ ψ ξ : hf_F} {r s : Int} (h : RP φ χ) (h4 : φ 6 3 = χ 194 3) (h5 : φ 6 3 ≤ 8) (h6 : NMR φ χ 7 24 197 19 (χ 194 3))
    (e1 : F_Reader_peekNamed_1_5_k2_3 φ = (r, ψ)) (e2 : F_RideLawsModel_looksAt_192 χ 19 (χ 194 3) = (s, ξ)) :
    (s = 1 ∧ 0 ≤ r ∧ r < χ 194 3 ∧ ψ = φ ∧ ξ = hf_up χ 192 18 r) ∨ (s = 0 ∧ r = -1 ∧ FP ψ ξ) := by
  unfold F_Reader_peekNamed_1_5_k2_3 at e1
  unfold F_RideLawsModel_looksAt_192 at e2
  have hz := isnm_z h
  by_cases c1 : φ 1 5 = 2
  · rw [if_pos c1] at e1
    have w := rp_w h c1
    have hnz : ¬ F_RideLawsModel_isName_192 χ = 0 := by rw [hz]; exact fun q => q c1
    rw [bnp_e rfl, if_pos hnz, bnp_e rfl] at e2
    rw [bnp_e rfl] at e1
    have hs : F_RideLawsModel_seek_192 χ 19 (χ 194 3) = F_Plan_numberOf_5_k1_3 φ (φ 1 8) := nof_5_3 9 9 φ χ (φ 1 8) 0 (by decide) (by decide) (by decide) h4 h5 h6 w.1 w.2.2.1
    rw [hs] at e2
    have hr := K_F_Plan_numberOf_5_k1_3 (r := F_Plan_numberOf_5_k1_3 φ (φ 1 8)) (v2 := φ 1 8) h.1.1 rfl
    generalize F_Plan_numberOf_5_k1_3 φ (φ 1 8) = z at e1 e2 hr
    by_cases c2 : z = -1
    · rw [if_neg (fun q => q c2)] at e1
      rw [if_neg (show ¬ 0 ≤ z by omega)] at e2
      obtain ⟨z5, ψ5, h5'⟩ : ∃ a b, F_Reader_refuse_1 φ 3 = (a, b) := ⟨_, _, rfl⟩
      obtain ⟨z6, ψ6, h6'⟩ : ∃ a b, F_RideLawsModel_bad_192 (hf_up χ 192 18 z) 3 = (a, b) := ⟨_, _, rfl⟩
      rw [bnd_e h5'] at e1
      rw [bnd_e h6'] at e2
      have hfp : z6 = 0 ∧ FP ψ5 ψ6 := by
        have hx := h.2.2.2.2.1
        unfold F_Reader_refuse_1 at h5'
        unfold F_RideLawsModel_bad_192 at h6'
        cases h5'
        cases h6'
        exact ⟨rfl, rfl, hx⟩
      rw [if_pos hfp.1] at e2
      cases e1
      cases e2
      exact Or.inr ⟨rfl, c2, hfp.2⟩
    · rw [if_pos c2] at e1
      rw [if_pos (show 0 ≤ z by omega)] at e2
      cases e1
      cases e2
      exact Or.inl ⟨rfl, by omega, by omega, rfl, rfl⟩
  · rw [if_neg c1] at e1
    have hnz : F_RideLawsModel_isName_192 χ = 0 := by rw [hz]; exact c1
    rw [bnp_e rfl, if_neg (fun q => q hnz)] at e2
    obtain ⟨z5, ψ5, h5'⟩ : ∃ a b, F_Reader_refuse_1 φ 1 = (a, b) := ⟨_, _, rfl⟩
    obtain ⟨z6, ψ6, h6'⟩ : ∃ a b, F_RideLawsModel_bad_192 χ 1 = (a, b) := ⟨_, _, rfl⟩
    rw [bnd_e h5'] at e1
    rw [bnd_e h6'] at e2
    have := rf_bad h h5' h6'
    cases e1
    cases e2
    exact Or.inr ⟨this.2.1, rfl, this.2.2⟩
theorem nog_0 : ∀ (n : Nat) (φ : hf_F) (w i : Int), 0 ≤ i → F_Plan_numberOf_31_l3 n φ 0 w i = F_Plan_numberOf_31_k1_0_l3 n φ w i := by
  intro n
  induction n with
  | zero => intro φ w i h; rfl
  | succ n ih =>
    intro φ w i h
    rw [F_Plan_numberOf_31_l3_s, F_Plan_numberOf_31_k1_0_l3_s, ih φ w (i + 1) (by omega), show (((0 : Int) * 8 + i)).toNat = (0 + i).toNat by omega]
    rfl
theorem nog_1 : ∀ (n : Nat) (φ : hf_F) (w i : Int), 0 ≤ i → F_Plan_numberOf_31_l3 n φ 1 w i = F_Plan_numberOf_31_k1_1_l3 n φ w i := by
  intro n
  induction n with
  | zero => intro φ w i h; rfl
  | succ n ih =>
    intro φ w i h
    rw [F_Plan_numberOf_31_l3_s, F_Plan_numberOf_31_k1_1_l3_s, ih φ w (i + 1) (by omega), show (((1 : Int) * 8 + i)).toNat = (8 + i).toNat by omega]
    rfl
theorem nog_2 : ∀ (n : Nat) (φ : hf_F) (w i : Int), 0 ≤ i → F_Plan_numberOf_31_l3 n φ 2 w i = F_Plan_numberOf_31_k1_2_l3 n φ w i := by
  intro n
  induction n with
  | zero => intro φ w i h; rfl
  | succ n ih =>
    intro φ w i h
    rw [F_Plan_numberOf_31_l3_s, F_Plan_numberOf_31_k1_2_l3_s, ih φ w (i + 1) (by omega), show (((2 : Int) * 8 + i)).toNat = (16 + i).toNat by omega]
    rfl
theorem nog_3 : ∀ (n : Nat) (φ : hf_F) (w i : Int), 0 ≤ i → F_Plan_numberOf_31_l3 n φ 3 w i = F_Plan_numberOf_31_k1_3_l3 n φ w i := by
  intro n
  induction n with
  | zero => intro φ w i h; rfl
  | succ n ih =>
    intro φ w i h
    rw [F_Plan_numberOf_31_l3_s, F_Plan_numberOf_31_k1_3_l3_s, ih φ w (i + 1) (by omega), show (((3 : Int) * 8 + i)).toNat = (24 + i).toNat by omega]
    rfl
theorem nog_4 : ∀ (n : Nat) (φ : hf_F) (w i : Int), 0 ≤ i → F_Plan_numberOf_31_l3 n φ 4 w i = F_Plan_numberOf_31_k1_4_l3 n φ w i := by
  intro n
  induction n with
  | zero => intro φ w i h; rfl
  | succ n ih =>
    intro φ w i h
    rw [F_Plan_numberOf_31_l3_s, F_Plan_numberOf_31_k1_4_l3_s, ih φ w (i + 1) (by omega), show (((4 : Int) * 8 + i)).toNat = (32 + i).toNat by omega]
    rfl
theorem told_e (φ : hf_F) (w : Int) : (F_Plan_isTold_31 φ w = 0) = (F_Plan_numberOf_31_k1_0 φ w = -1 ∧ F_Plan_numberOf_31_k1_1 φ w = -1 ∧ F_Plan_numberOf_31_k1_2 φ w = -1 ∧ F_Plan_numberOf_31_k1_3 φ w = -1 ∧ F_Plan_numberOf_31_k1_4 φ w = -1) := by
  show (F_Plan_isTold_31_l2 6 φ w 0 = 0) = _
  have g0 : F_Plan_numberOf_31 φ 0 w = F_Plan_numberOf_31_k1_0 φ w := nog_0 9 φ w 0 (by decide)
  have g1 : F_Plan_numberOf_31 φ 1 w = F_Plan_numberOf_31_k1_1 φ w := nog_1 9 φ w 0 (by decide)
  have g2 : F_Plan_numberOf_31 φ 2 w = F_Plan_numberOf_31_k1_2 φ w := nog_2 9 φ w 0 (by decide)
  have g3 : F_Plan_numberOf_31 φ 3 w = F_Plan_numberOf_31_k1_3 φ w := nog_3 9 φ w 0 (by decide)
  have g4 : F_Plan_numberOf_31 φ 4 w = F_Plan_numberOf_31_k1_4 φ w := nog_4 9 φ w 0 (by decide)
  have s0 : ∀ n : Nat, F_Plan_isTold_31_l2 (n + 1) φ w 0 = if F_Plan_numberOf_31_k1_0 φ w = -1 then F_Plan_isTold_31_l2 n φ w 1 else 1 := by
    intro n; rw [F_Plan_isTold_31_l2_s, if_neg (by decide), bnp_e g0]; rfl
  have s1 : ∀ n : Nat, F_Plan_isTold_31_l2 (n + 1) φ w 1 = if F_Plan_numberOf_31_k1_1 φ w = -1 then F_Plan_isTold_31_l2 n φ w 2 else 1 := by
    intro n; rw [F_Plan_isTold_31_l2_s, if_neg (by decide), bnp_e g1]; rfl
  have s2 : ∀ n : Nat, F_Plan_isTold_31_l2 (n + 1) φ w 2 = if F_Plan_numberOf_31_k1_2 φ w = -1 then F_Plan_isTold_31_l2 n φ w 3 else 1 := by
    intro n; rw [F_Plan_isTold_31_l2_s, if_neg (by decide), bnp_e g2]; rfl
  have s3 : ∀ n : Nat, F_Plan_isTold_31_l2 (n + 1) φ w 3 = if F_Plan_numberOf_31_k1_3 φ w = -1 then F_Plan_isTold_31_l2 n φ w 4 else 1 := by
    intro n; rw [F_Plan_isTold_31_l2_s, if_neg (by decide), bnp_e g3]; rfl
  have s4 : ∀ n : Nat, F_Plan_isTold_31_l2 (n + 1) φ w 4 = if F_Plan_numberOf_31_k1_4 φ w = -1 then F_Plan_isTold_31_l2 n φ w 5 else 1 := by
    intro n; rw [F_Plan_isTold_31_l2_s, if_neg (by decide), bnp_e g4]; rfl
  have s5 : F_Plan_isTold_31_l2 1 φ w 5 = 0 := by rw [F_Plan_isTold_31_l2_s, if_pos (by decide)]
  have one : ((1 : Int) = 0) = False := propext ⟨fun q => absurd q (by decide), fun q => q.elim⟩
  rw [s0, s1, s2, s3, s4, s5]
  apply propext
  by_cases c0 : F_Plan_numberOf_31_k1_0 φ w = -1
  · by_cases c1 : F_Plan_numberOf_31_k1_1 φ w = -1
    · by_cases c2 : F_Plan_numberOf_31_k1_2 φ w = -1
      · by_cases c3 : F_Plan_numberOf_31_k1_3 φ w = -1
        · by_cases c4 : F_Plan_numberOf_31_k1_4 φ w = -1
          · rw [if_pos c0, if_pos c1, if_pos c2, if_pos c3, if_pos c4]
            exact ⟨fun _ => ⟨c0, c1, c2, c3, c4⟩, fun _ => rfl⟩
          · rw [if_pos c0, if_pos c1, if_pos c2, if_pos c3, if_neg c4, one]
            exact ⟨fun q => q.elim, fun q => c4 q.2.2.2.2⟩
        · rw [if_pos c0, if_pos c1, if_pos c2, if_neg c3, one]
          exact ⟨fun q => q.elim, fun q => c3 q.2.2.2.1⟩
      · rw [if_pos c0, if_pos c1, if_neg c2, one]
        exact ⟨fun q => q.elim, fun q => c2 q.2.2.1⟩
    · rw [if_pos c0, if_neg c1, one]
      exact ⟨fun q => q.elim, fun q => c1 q.2.1⟩
  · rw [if_neg c0, one]
    exact ⟨fun q => q.elim, fun q => c0 q.1⟩
