/-! a line of a BOOK, all of it -/
theorem bookline_rel {φ χ ψ ξ : hf_F} {r s : Int} (h : RP φ χ) (hP : PLG 5 φ (χ 194) (χ 197)) (hB : BKR φ χ) (e1 : F_BookText_readLine_183 φ = (r, ψ)) (e2 : F_RideLawsModel_bookLine_192 χ = (s, ξ)) : BLX r s ψ ξ := by
  have hI := h.1.2
  have hB2 := hB.2.1
  have hb := cb_i hI
  have hbb := hb
  unfold CB at hbb
  have w10 := isw_z h (k := 10) (by decide) (w := 33610324346432613) rfl
  have w11 := isw_z h (k := 11) (by decide) (w := 1953063787) rfl
  have kw : ∀ k : Int, (φ 1 5 = 3 ∧ φ 1 7 = k → F_Reader_isKeyword_1 φ k = 1) ∧ (¬ (φ 1 5 = 3 ∧ φ 1 7 = k) → F_Reader_isKeyword_1 φ k = 0) := fun k => ⟨fun q => by rw [iskw_e, if_pos q], fun q => by rw [iskw_e, if_neg q]⟩
  unfold F_BookText_readLine_183 at e1
  unfold F_RideLawsModel_bookLine_192 at e2
  simp only [bnd_id] at e1
  have ra := rp_adv h rfl rfl
  have t4 := tcf_a h
  obtain ⟨t5, t6⟩ := tmf_n hI
  by_cases c10 : φ 1 5 = 3 ∧ φ 1 7 = 10
  · have m1 : F_RideLawsModel_isWord_192 χ 1953063787 = 0 := by rw [w11]; exact fun q => absurd q.2 (by omega)
    have m2 : ¬ F_RideLawsModel_isWord_192 χ 33610324346432613 = 0 := by rw [w10]; exact fun q => q c10
    rw [bnp_e ((kw 10).1 c10), bnp_e ((kw 11).2 (fun q => by omega))] at e1
    rw [bnp_e m1, bnp_e rfl] at e2
    generalize F_RideLawsModel_isWord_192 χ 33610324346432613 = z2 at m2 e2
    simp only [show ¬ (1 : Int) = 0 by decide, m2, not_true, not_false_eq_true, if_true, if_false] at e1 e2
    by_cases c : χ 192 30 = 40
    · rw [if_neg (show ¬ φ 183 5 < 40 by have := hB.1; omega)] at e1
      simp only [c, if_true, if_false, not_true] at e2
      exact Or.inr (rf_bad h e1 e2)
    · rw [if_pos (show φ 183 5 < 40 by have := hB.1; omega), bnv_e rfl] at e1
      simp only [c, if_true, if_false, not_false_eq_true] at e2
      rw [bnv_e rfl] at e2
      cases e2
      have := bk_w h hP hB (by omega)
      rw [e1] at this
      exact this
  · have m2 : F_RideLawsModel_isWord_192 χ 33610324346432613 = 0 := by rw [w10]; exact c10
    by_cases c11 : φ 1 5 = 3 ∧ φ 1 7 = 11
    · have m1 : ¬ F_RideLawsModel_isWord_192 χ 1953063787 = 0 := by rw [w11]; exact fun q => q c11
      rw [bnp_e ((kw 10).2 c10), bnp_e ((kw 11).1 c11)] at e1
      rw [bnp_e rfl, bnp_e m2] at e2
      generalize F_RideLawsModel_isWord_192 χ 1953063787 = z1 at m1 e2
      simp only [show ¬ (1 : Int) = 0 by decide, m1, not_true, not_false_eq_true, if_true, if_false] at e1 e2
      by_cases c : χ 192 30 = 40
      · rw [if_neg (show ¬ φ 183 5 < 40 by have := hB.1; omega)] at e1
        simp only [c, if_true, if_false, not_true] at e2
        exact Or.inr (rf_bad h e1 e2)
      · rw [if_pos (show φ 183 5 < 40 by have := hB.1; omega), bnv_e rfl] at e1
        rw [if_pos (show ¬ χ 192 30 = 40 from c), bnv_e rfl] at e2
        exact bk_t h hP hB (by omega) e1 e2
    · have m1 : F_RideLawsModel_isWord_192 χ 1953063787 = 0 := by rw [w11]; exact c11
      rw [bnp_e ((kw 10).2 c10), bnp_e ((kw 11).2 c11)] at e1
      rw [bnp_e m1, bnp_e m2] at e2
      simp only [not_true, if_true, if_false] at e1 e2
      obtain ⟨p1, p2, p3⟩ := pn3 hI hP
      obtain ⟨z1, ψ1, g1⟩ : ∃ a b, F_Reader_peekNamed_1_5_k2_3 φ = (a, b) := ⟨_, _, rfl⟩
      obtain ⟨z2, ξ1, g2⟩ : ∃ a b, F_RideLawsModel_looksAt_192 χ 19 (χ 194 3) = (a, b) := ⟨_, _, rfl⟩
      rw [bnd_e g1] at e1
      rw [bnd_e g2] at e2
      rcases pn_5_3 h p3.1 p3.2.1 p3.2.2 g1 g2 with ⟨x1, x2, x3, x4, x5⟩ | ⟨x1, x2, x3⟩
      · rw [if_pos (show ¬ z1 = -1 by omega), x4] at e1
        rw [if_pos (show ¬ z2 = 0 by omega), x5] at e2
        have rg := rp_got h (show -1 ≤ z1 by omega) (show z1 ≤ 999 by omega)
        by_cases c : χ 192 30 = 40
        · rw [if_neg (show ¬ φ 183 5 < 40 by have := hB.1; omega)] at e1
          rw [if_neg (show ¬ ¬ hf_up χ 192 18 z1 192 30 = 40 from fun q => q c)] at e2
          exact Or.inr (rf_bad rg e1 e2)
        · rw [if_pos (show φ 183 5 < 40 by have := hB.1; omega), bnv_e rfl] at e1
          rw [if_pos (show ¬ hf_up χ 192 18 z1 192 30 = 40 from c), bnv_e rfl] at e2
          have rb := rp_adv rg rfl rfl
          obtain ⟨t7, t8⟩ := tmf_n rg.1.2
          have r3 := rp_196 (z := 3 * χ 192 30) (v := 3) rb.1 (by omega) (by omega) (by decide) (by decide)
          have T2 : TMF χ (hf_up (F_RideLawsModel_next_192 (hf_up χ 192 18 z1)) 196 (3 * χ 192 30).toNat 3) := tmf_t (tmf_t (tmf_g χ z1) t7) (tmf_u _ _ _)
          refine bk_a r3 ⟨x2, x3⟩ hI hP hB (by omega) t4 T2 (fun k hk => by rw [up_k (by omega), t8, up_a (by decide)]) e1 ?_
          rw [← e2]
          rfl
      · rw [if_neg (show ¬ ¬ z1 = -1 from fun q => q x2)] at e1
        rw [if_neg (show ¬ ¬ z2 = 0 from fun q => q x1)] at e2
        cases e1
        cases e2
        exact Or.inr ⟨rfl, rfl, x3⟩
