/-! a SENTENCE: all depths, its end -/
theorem sap_9 : SAP F_Sentence_readOne_52_1_5_k3_9 9 := by
  intro φ χ ψ r T m h e hm
  have o35 := iv_at (a := 192) (k := 35) (lo := 0) (u := 20) h.1.1.2 (by decide +kernel)
  obtain ⟨m, rfl⟩ := smm_1 h.1.1.2 hm
  have hR := h.1
  have h38 := h.2.2.2.1
  have h37 := h.2.2.2.2.2.1
  have hd8 : ¬ jm_n (χ 192 37) ≤ 8 := by rw [h37, show jm_n 9 = 9 from rfl]; decide
  obtain ⟨ψ4, ξ4, r1, r2, r3⟩ := ref_bad hR 4
  obtain ⟨ψb, ξb, b1, b2, b3⟩ := ref_bad hR 1
  have wn := isw_z hR (k := 14) (by decide) (w := 7237492) rfl
  have sg := sg_z hR 40
  have lf := leaf_e hR
  unfold F_Sentence_readOne_52_1_5_k3_9 at e
  simp only [bnp, bnd_id] at e
  rw [r1, b1, sgo_e, bo_e] at e
  by_cases tc : φ 1 5 = 5 ∧ φ 1 7 = 40
  · rw [if_pos tc, if_pos (show ¬ (1 : Int) = 0 by decide), ite_self] at e
    cases e
    rw [if_pos tc] at sg
    have g3 : F_RideLawsModel_isWord_192 χ 7237492 = 0 := by rw [wn]; intro z; have := z.1; omega
    have ho := opn_c g3 sg
    rw [if_neg hd8, r2, ite_self] at ho
    exact Or.inl ⟨rfl, sfl_1 h38 ho r3⟩
  · rw [if_neg tc, if_neg (show ¬ ¬ (0 : Int) = 0 by decide)] at e
    rw [if_neg tc] at sg
    by_cases tb : φ 1 5 = 3 ∧ 14 ≤ φ 1 7 ∧ φ 1 7 ≤ 22
    · rw [if_pos tb, if_pos (show ¬ (1 : Int) = 0 by decide), ite_self] at e
      cases e
      by_cases tn : φ 1 7 = 14
      · have g3 : ¬ F_RideLawsModel_isWord_192 χ 7237492 = 0 := by rw [wn]; exact fun z => z ⟨tb.1, tn⟩
        have ho := opn_n g3
        rw [if_neg hd8, r2, ite_self] at ho
        exact Or.inl ⟨rfl, sfl_1 h38 ho r3⟩
      · have g3 : F_RideLawsModel_isWord_192 χ 7237492 = 0 := by rw [wn]; intro z; exact tn z.2
        rw [if_pos (show φ 1 5 = 3 ∧ 15 ≤ φ 1 7 ∧ φ 1 7 ≤ 22 from ⟨tb.1, by omega, tb.2.2⟩)] at lf
        have ho := opn_l g3 sg lf (by omega)
        rw [if_neg hd8, r2, ite_self] at ho
        exact Or.inl ⟨rfl, sfl_1 h38 ho r3⟩
    · rw [if_neg tb, if_neg (show ¬ ¬ (0 : Int) = 0 by decide)] at e
      cases e
      have g3 : F_RideLawsModel_isWord_192 χ 7237492 = 0 := by
        rw [wn]; intro z; exact tb ⟨z.1, by have := z.2; omega, by have := z.2; omega⟩
      rw [if_neg (show ¬ (φ 1 5 = 3 ∧ 15 ≤ φ 1 7 ∧ φ 1 7 ≤ 22) from fun z => tb ⟨z.1, by omega, z.2.2⟩)] at lf
      have ho := opn_b g3 sg lf (by decide)
      rw [b2] at ho
      exact Or.inl ⟨rfl, sfl_1 h38 ho b3⟩
theorem rc_9 : F_Sentence_readCond_52_1_5_k3_9 = RCX F_Sentence_readOne_52_1_5_k3_9 := rfl
theorem sbp_9 : SBP F_Sentence_readCond_52_1_5_k3_9 9 := by rw [rc_9]; exact sbp_x sap_9
theorem sap_8 : SAP F_Sentence_readOne_52_1_5_k3_8 8 := by rw [ro_8]; exact sap_x (d := 8) (by decide) sap_9 sbp_9
theorem sbp_8 : SBP F_Sentence_readCond_52_1_5_k3_8 8 := by rw [rc_8]; exact sbp_x sap_8
theorem sap_7 : SAP F_Sentence_readOne_52_1_5_k3_7 7 := by rw [ro_7]; exact sap_x (d := 7) (by decide) sap_8 sbp_8
theorem sbp_7 : SBP F_Sentence_readCond_52_1_5_k3_7 7 := by rw [rc_7]; exact sbp_x sap_7
theorem sap_6 : SAP F_Sentence_readOne_52_1_5_k3_6 6 := by rw [ro_6]; exact sap_x (d := 6) (by decide) sap_7 sbp_7
theorem sbp_6 : SBP F_Sentence_readCond_52_1_5_k3_6 6 := by rw [rc_6]; exact sbp_x sap_6
theorem sap_5 : SAP F_Sentence_readOne_52_1_5_k3_5 5 := by rw [ro_5]; exact sap_x (d := 5) (by decide) sap_6 sbp_6
theorem sbp_5 : SBP F_Sentence_readCond_52_1_5_k3_5 5 := by rw [rc_5]; exact sbp_x sap_5
theorem sap_4 : SAP F_Sentence_readOne_52_1_5_k3_4 4 := by rw [ro_4]; exact sap_x (d := 4) (by decide) sap_5 sbp_5
theorem sbp_4 : SBP F_Sentence_readCond_52_1_5_k3_4 4 := by rw [rc_4]; exact sbp_x sap_4
theorem sap_3 : SAP F_Sentence_readOne_52_1_5_k3_3 3 := by rw [ro_3]; exact sap_x (d := 3) (by decide) sap_4 sbp_4
theorem sbp_3 : SBP F_Sentence_readCond_52_1_5_k3_3 3 := by rw [rc_3]; exact sbp_x sap_3
theorem sap_2 : SAP F_Sentence_readOne_52_1_5_k3_2 2 := by rw [ro_2]; exact sap_x (d := 2) (by decide) sap_3 sbp_3
theorem sbp_2 : SBP F_Sentence_readCond_52_1_5_k3_2 2 := by rw [rc_2]; exact sbp_x sap_2
theorem sap_1 : SAP F_Sentence_readOne_52_1_5_k3_1 1 := by rw [ro_1]; exact sap_x (d := 1) (by decide) sap_2 sbp_2
theorem sbp_1 : SBP F_Sentence_readCond_52_1_5_k3_1 1 := by rw [rc_1]; exact sbp_x sap_1
theorem l48_g : ∀ (n : Nat) (χ ξ : hf_F) (l s : Int), F_RideLawsModel_sentence_192_l48 n χ l = (s, ξ) → (∀ k, ξ 194 k = χ 194 k) ∨ s = ξ 192 35 := by
  have ha : ¬ 194 = 192 := by decide
  have hb : ¬ 194 = 196 := by decide
  have hc : ¬ 194 = 203 := by decide
  intro n
  induction n with
  | zero =>
    intro χ ξ l s e
    have e : ((0 : Int), χ) = (s, ξ) := e
    cases e
    exact Or.inl (fun _ => rfl)
  | succ n ih =>
    have stp : ∀ (p : Int × hf_F) (χ ξ : hf_F) (l s : Int), (∀ k, p.2 194 k = χ 194 k) → bnd p (fun z ψ => (if ¬ z = 0 then F_RideLawsModel_sentence_192_l48 n ψ l else ((-1 : Int) - (ψ 192 16), ψ))) = (s, ξ) → (∀ k, ξ 194 k = χ 194 k) ∨ s = ξ 192 35 := by
      intro p χ ξ l s hp e
      obtain ⟨z, ψ⟩ := p
      have e : (if ¬ z = 0 then F_RideLawsModel_sentence_192_l48 n ψ l else ((-1 : Int) - (ψ 192 16), ψ)) = (s, ξ) := e
      by_cases c : z = 0
      · rw [if_neg (show ¬ ¬ z = 0 from fun q => q c)] at e
        cases e
        exact Or.inl hp
      · rw [if_pos (show ¬ z = 0 from c)] at e
        rcases ih ψ ξ l s e with q | q
        · exact Or.inl (fun k => (q k).trans (hp k))
        · exact Or.inr q
    intro χ ξ l s e
    rw [F_RideLawsModel_sentence_192_l48_s] at e
    by_cases c0 : l = 0
    · rw [if_pos c0] at e
      cases e
      right
      rw [hf_mp_ne (fun q => absurd q.1 (by decide)), up_a (by decide)]
    · rw [if_neg c0] at e
      by_cases c1 : χ 192 38 = 0
      · rw [if_pos c1, if_pos c1] at e
        exact stp _ χ ξ l s (fun k => operand_a ha hb hc χ k) e
      · rw [if_neg c1] at e
        by_cases c2 : χ 192 11 = 0
        · rw [if_neg (show ¬ ¬ χ 192 11 = 0 from fun q => q c2), bnv_e rfl, bnv_e rfl] at e
          have hj : ∀ k, F_RideLawsModel_joins_192 (F_RideLawsModel_nots_192 χ) 22 194 k = χ 194 k := fun k => by rw [joins_a ha hb, nots_a ha hb]
          by_cases c3 : F_RideLawsModel_joins_192 (F_RideLawsModel_nots_192 χ) 22 192 36 ≤ 0
          · rw [if_pos c3] at e
            rcases ih _ ξ 0 s e with q | q
            · exact Or.inl (fun k => (q k).trans (hj k))
            · exact Or.inr q
          · rw [if_neg c3] at e
            have e : ((-1 : Int) - (F_RideLawsModel_bad_192 (F_RideLawsModel_joins_192 (F_RideLawsModel_nots_192 χ) 22) 1).2 192 16, (F_RideLawsModel_bad_192 (F_RideLawsModel_joins_192 (F_RideLawsModel_nots_192 χ) 22) 1).2) = (s, ξ) := e
            cases e
            exact Or.inl (fun k => (bad_a ha _ _ k).trans (hj k))
        · rw [if_pos (show ¬ χ 192 11 = 0 from c2), if_neg c1] at e
          exact stp _ χ ξ l s (fun k => behind_a ha hb hc χ k) e
/-- the start: nothing is read -/
theorem sent_0 {φ χ : hf_F} (i1 : Inv φ) (i2 : Inv χ) (hz : φ 1 2 = χ 192 2) (hk : KWR φ χ) (ht : TPR φ χ) (hP : PLG 5 φ (χ 194) (χ 197)) :
    ∃ φ2 χ2 : hf_F, F_Reader_begin_1 (F_Sentence_forget_52 φ) 200 = φ2 ∧ F_RideLawsModel_next_192 (hf_up (hf_up (hf_up (hf_up (hf_up (hf_up (F_RideLawsModel_taken_192 (hf_up χ 192 0 0) 200) 192 15 0) 192 34 0) 192 35 0) 192 36 0) 192 37 1) 192 38 0) = χ2 ∧ SEX φ2 χ2 0 1 ∧ (∀ k, χ2 194 k = χ 194 k) ∧ χ2 192 35 = 0 := by
  have j0 : Inv (F_Sentence_forget_52 φ) := iv_up (lo := 0) (u := 1) (iv_up (lo := 0) (u := 20) (iv_up (lo := 0) (u := 40) i1 (by decide +kernel) (by decide) (by decide)) (by decide +kernel) (by decide) (by decide)) (by decide +kernel) (by decide) (by decide)
  have f1 : ∀ k, F_Sentence_forget_52 φ 1 k = φ 1 k := fun k => by unfold F_Sentence_forget_52; rw [up_a (by decide), up_a (by decide), up_a (by decide)]
  have fo : ∀ a k, ¬ a = 52 → F_Sentence_forget_52 φ a k = φ a k := fun a k g => by unfold F_Sentence_forget_52; rw [up_a g, up_a g, up_a g]
  have f3 : F_Sentence_forget_52 φ 52 3 = 0 := by unfold F_Sentence_forget_52; rw [hf_up_ne (by omega), hf_up_ne (by omega), hf_up_eq]
  have f4 : F_Sentence_forget_52 φ 52 4 = 0 := by unfold F_Sentence_forget_52; rw [hf_up_ne (by omega), hf_up_eq]
  generalize F_Sentence_forget_52 φ = φ1 at j0 f1 fo f3 f4 ⊢
  have j2 : Inv (hf_up (hf_up (hf_up (hf_up φ1 1 3 200) 1 4 0) 1 9 0) 1 10 0) :=
    iv_up (lo := 0) (u := 940) (iv_up (lo := 0) (u := 4) (iv_up (lo := 0) (u := 940) (iv_up (lo := 0) (u := 940) j0 (by decide +kernel) (by decide) (by decide)) (by decide +kernel) (by decide) (by decide)) (by decide +kernel) (by decide) (by decide)) (by decide +kernel) (by decide) (by decide)
  have kt := K_F_RideLawsModel_taken_192 (inv_0 i2) (v1 := 200) (by decide) (by decide) rfl
  have c1 : F_RideLawsModel_taken_192 (hf_up χ 192 0 0) 200 192 3 = χ 192 2 := rfl
  have c2 : F_RideLawsModel_taken_192 (hf_up χ 192 0 0) 200 192 4 = 0 := rfl
  have c3 : F_RideLawsModel_taken_192 (hf_up χ 192 0 0) 200 192 5 = 200 := rfl
  have c6 : ∀ a k, ¬ a = 192 → F_RideLawsModel_taken_192 (hf_up χ 192 0 0) 200 a k = χ a k := fun a k ha => by
    unfold F_RideLawsModel_taken_192
    simp only [up_a ha]
  generalize F_RideLawsModel_taken_192 (hf_up χ 192 0 0) 200 = χ1 at kt c1 c2 c3 c6 ⊢
  have k1 : Inv (hf_up (hf_up (hf_up (hf_up χ1 192 15 0) 192 34 0) 192 35 0) 192 36 0) := iv_up (lo := 0) (u := 45) (iv_up (lo := 0) (u := 20) (iv_up (lo := 0) (u := 45) (iv_up (lo := 0) (u := 4) kt.1 (by decide +kernel) (by decide) (by decide)) (by decide +kernel) (by decide) (by decide)) (by decide +kernel) (by decide) (by decide)) (by decide +kernel) (by decide) (by decide)
  have k2 : Inv (hf_up (hf_up (hf_up (hf_up (hf_up χ1 192 15 0) 192 34 0) 192 35 0) 192 36 0) 192 37 1) := iv_upn k1 (by decide) (by decide) (by decide +kernel)
  have k3 : Inv (hf_up (hf_up (hf_up (hf_up (hf_up (hf_up χ1 192 15 0) 192 34 0) 192 35 0) 192 36 0) 192 37 1) 192 38 0) := iv_up (lo := 0) (u := 1) k2 (by decide +kernel) (by decide) (by decide)
  have q34 : hf_up (hf_up (hf_up (hf_up (hf_up (hf_up χ1 192 15 0) 192 34 0) 192 35 0) 192 36 0) 192 37 1) 192 38 0 192 34 = 0 := rfl
  have q35 : hf_up (hf_up (hf_up (hf_up (hf_up (hf_up χ1 192 15 0) 192 34 0) 192 35 0) 192 36 0) 192 37 1) 192 38 0 192 35 = 0 := rfl
  have q36 : hf_up (hf_up (hf_up (hf_up (hf_up (hf_up χ1 192 15 0) 192 34 0) 192 35 0) 192 36 0) 192 37 1) 192 38 0 192 36 = 0 := rfl
  have q37 : hf_up (hf_up (hf_up (hf_up (hf_up (hf_up χ1 192 15 0) 192 34 0) 192 35 0) 192 36 0) 192 37 1) 192 38 0 192 37 = 1 := rfl
  have q38 : hf_up (hf_up (hf_up (hf_up (hf_up (hf_up χ1 192 15 0) 192 34 0) 192 35 0) 192 36 0) 192 37 1) 192 38 0 192 38 = 0 := rfl
  have q15 : hf_up (hf_up (hf_up (hf_up (hf_up (hf_up χ1 192 15 0) 192 34 0) 192 35 0) 192 36 0) 192 37 1) 192 38 0 192 15 = 0 := rfl
  have q3 : hf_up (hf_up (hf_up (hf_up (hf_up (hf_up χ1 192 15 0) 192 34 0) 192 35 0) 192 36 0) 192 37 1) 192 38 0 192 3 = χ1 192 3 := rfl
  have q4 : hf_up (hf_up (hf_up (hf_up (hf_up (hf_up χ1 192 15 0) 192 34 0) 192 35 0) 192 36 0) 192 37 1) 192 38 0 192 4 = χ1 192 4 := rfl
  have q5 : hf_up (hf_up (hf_up (hf_up (hf_up (hf_up χ1 192 15 0) 192 34 0) 192 35 0) 192 36 0) 192 37 1) 192 38 0 192 5 = χ1 192 5 := rfl
  have qo : ∀ a k, ¬ a = 192 → hf_up (hf_up (hf_up (hf_up (hf_up (hf_up χ1 192 15 0) 192 34 0) 192 35 0) 192 36 0) 192 37 1) 192 38 0 a k = χ a k := fun a k ha => by rw [up_a ha, up_a ha, up_a ha, up_a ha, up_a ha, up_a ha, c6 a k ha]
  generalize hf_up (hf_up (hf_up (hf_up (hf_up (hf_up χ1 192 15 0) 192 34 0) 192 35 0) 192 36 0) 192 37 1) 192 38 0 = χ3 at k3 q34 q35 q36 q37 q38 q15 q3 q4 q5 qo ⊢
  have b1 := iv_at (a := 1) (k := 2) (lo := 0) (u := 940) i1 (by decide +kernel)
  have hk2 : KWR (hf_up (hf_up (hf_up (hf_up φ1 1 3 200) 1 4 0) 1 9 0) 1 10 0) χ3 := kwr_f hk (fun k => fo 3 k (by decide)) (fun k => qo 198 k (by decide))
  have ht2 : TPR (hf_up (hf_up (hf_up (hf_up φ1 1 3 200) 1 4 0) 1 9 0) 1 10 0) χ3 := tpr_f ht (fun k => fo 2 k (by decide)) (fun k => qo 193 k (by decide))
  have hs2 : TSR (hf_up (hf_up (hf_up (hf_up φ1 1 3 200) 1 4 0) 1 9 0) 1 10 0) χ3 := by
    unfold TSR
    show φ1 1 2 = χ3 192 3 ∧ (200 : Int) = χ3 192 5 ∧ (0 : Int) = χ3 192 4 ∧ (0 : Int) ≤ 0 ∧ (0 : Int) ≤ φ1 1 2 ∧ φ1 1 2 ≤ 940 ∧ (0 : Int) = χ3 192 15
    rw [q3, q5, q4, q15, c1, c3, c2, f1 2]
    omega
  have ra := rp_adv0 j2 k3 hk2 ht2 hs2 rfl rfl
  obtain ⟨_, _, _, n30, n34, n35, n36, n38⟩ := (K_F_RideLawsModel_next_192 k3 rfl).2.2
  have n37 : F_RideLawsModel_next_192 χ3 192 37 = χ3 192 37 := fr_fd ra.2.2 192 37 (by decide)
  have ka := K_F_Reader_advance_1 j2 rfl
  have pr : ∀ u k, 5 < u → u ≤ 16 → F_Reader_advance_1 (hf_up (hf_up (hf_up (hf_up φ1 1 3 200) 1 4 0) 1 9 0) 1 10 0) u k = φ u k := fun u k h1 h2 => by
    rw [fr_hi ka.2 (by decide) (by
      have : u = 6 ∨ u = 7 ∨ u = 8 ∨ u = 9 ∨ u = 10 ∨ u = 11 ∨ u = 12 ∨ u = 13 ∨ u = 14 ∨ u = 15 ∨ u = 16 := by omega
      rcases this with rfl | rfl | rfl | rfl | rfl | rfl | rfl | rfl | rfl | rfl | rfl <;> decide) (by omega) k, up_a (by omega), up_a (by omega), up_a (by omega), up_a (by omega), fo u k (by omega)]
  have a3 : F_Reader_advance_1 (hf_up (hf_up (hf_up (hf_up φ1 1 3 200) 1 4 0) 1 9 0) 1 10 0) 52 3 = 0 := (fr_fd ka.2 52 3 (by decide)).trans f3
  have a4 : F_Reader_advance_1 (hf_up (hf_up (hf_up (hf_up φ1 1 3 200) 1 4 0) 1 9 0) 1 10 0) 52 4 = 0 := (fr_fd ka.2 52 4 (by decide)).trans f4
  refine ⟨_, _, rfl, rfl, ⟨ra.1, plg_f hP (cb_i i2) (fun a k q => pr a k q.1 (by omega)) (fun k _ => (next_a (by decide) χ3 k).trans (qo 194 k (by decide))) (fun k _ => (next_a (by decide) χ3 k).trans (qo 197 k (by decide))), ⟨?_, by omega⟩, n38.trans q38, n36.trans q36, n37.trans q37, ?_, ?_⟩, fun k => (next_a (by decide) χ3 k).trans (qo 194 k (by decide)), n35.trans q35⟩
  · rw [n38, q38]
    exact si_0 (n34.trans q34) (n36.trans q36)
  · exact a4.trans (n35.trans q35).symm
  · have x34 := n34.trans q34
    refine ⟨?_, by omega, fun i hi => by omega, fun j hj => by omega, fun j hj => by omega, fun j hj => by omega⟩
    show F_Reader_advance_1 (hf_up (hf_up (hf_up (hf_up φ1 1 3 200) 1 4 0) 1 9 0) 1 10 0) 52 3 = _
    rw [a3, x34]
    decide
/-- the SENTENCE that is so -/
noncomputable def SNR (φ χ : hf_F) : Prop := (φ 26 5 = 0 ∧ χ 194 180 = 0) ∨ (φ 26 5 = 1 ∧ 1 ≤ χ 194 180 ∧ φ 26 3 = χ 194 180 ∧ cd χ 194 180 (χ 194 180).toNat = 1 ∧ ∀ i : Nat, (i : Int) < χ 194 180 → χ 194 (181 + 3 * i) = SKM (φ 27 i) ∧ χ 194 (181 + 3 * i + 1) = φ 28 i ∧ χ 194 (181 + 3 * i + 2) = φ 29 i)
theorem cd_cdr {ξ η : hf_F} : ∀ n : Nat, (∀ j : Nat, j < n → ξ 194 (180 + 1 + 3 * j) = η 196 (3 * j)) → cd ξ 194 180 n = cdr η n := by
  intro n
  induction n with
  | zero => intro _; rfl
  | succ n ih =>
    intro h
    show (if ξ 194 (180 + 1 + 3 * n) = 20 then cd ξ 194 180 n else if ξ 194 (180 + 1 + 3 * n) = 21 ∨ ξ 194 (180 + 1 + 3 * n) = 22 then cd ξ 194 180 n - 1 else cd ξ 194 180 n + 1) = (if η 196 (3 * n) = 20 then cdr η n else if η 196 (3 * n) = 21 ∨ η 196 (3 * n) = 22 then cdr η n - 1 else cdr η n + 1)
    rw [h n (by omega), ih (fun j hj => h j (by omega))]
noncomputable def SNQ (φ ψ : hf_F) : Prop := ψ 26 3 = φ 26 3 ∧ ψ 26 5 = φ 26 5 ∧ (∀ k, ψ 27 k = φ 27 k) ∧ (∀ k, ψ 28 k = φ 28 k) ∧ ∀ k, ψ 29 k = φ 29 k
theorem cls_f (ψ : hf_F) : F_RideLaws_closeText_0 ψ 0 12 = ψ 1 9 ∧ F_RideLaws_closeText_0 ψ 1 10 = ψ 1 10 ∧ ∀ a k, ¬ a = 0 → ¬ a = 1 → F_RideLaws_closeText_0 ψ a k = ψ a k := by
  unfold F_RideLaws_closeText_0
  exact ⟨by rw [hf_up_ne (fun q => absurd q.1 (by decide)), hf_up_eq], by rw [hf_up_ne (by omega), up_a (by decide)], fun a k h1 h2 => by rw [up_a h2, up_a h1]⟩
theorem sent_rel {φ χ ψ ξ : hf_F} {r s : Int} (i1 : Inv φ) (i2 : Inv χ) (h : SCR φ χ) (hz : φ 1 2 = χ 192 2) (hk : KWR φ χ) (ht : TPR φ χ) (e1 : F_RideLaws_sentence_0 φ = (r, ψ)) (e2 : F_RideLawsModel_sentence_192 χ = (s, ξ)) :
    r = s ∧ ψ 0 12 = ξ 192 15 ∧ ((SNQ φ ψ ∧ ∀ k, ξ 194 k = χ 194 k) ∨ SNR ψ ξ) := by
  have kI := (K_F_RideLawsModel_sentence_192 i2 e2).1
  obtain ⟨φ2, χ2, g1, g2, hE, g4, g5⟩ := sent_0 i1 i2 hz hk ht h.1
  unfold F_RideLawsModel_sentence_192 at e2
  rw [bnv_e rfl, bnv_e rfl, g2] at e2
  obtain ⟨z, ψ1, ga⟩ : ∃ p q, F_Sentence_readAll_52_1_5 φ = (p, q) := ⟨_, _, rfl⟩
  have kA := (K_F_Sentence_readAll_52_1_5 i1 ga).2.1
  have fA : SNQ φ ψ1 := ⟨fr_fd kA 26 3 (by decide), fr_fd kA 26 5 (by decide), fun k => fr_at kA 27 (by decide) k, fun k => fr_at kA 28 (by decide) k, fun k => fr_at kA 29 (by decide) k⟩
  unfold F_RideLaws_sentence_0 at e1
  rw [bnd_e ga, bnv_e rfl] at e1
  unfold F_Sentence_readAll_52_1_5 at ga
  rw [bnv_e rfl, bnv_e g1] at ga
  obtain ⟨z3, ψ3, gc⟩ : ∃ p q, F_Sentence_readCond_52_1_5_k3_1 φ2 = (p, q) := ⟨_, _, rfl⟩
  rw [bnd_e gc] at ga
  have hm : SMM χ2 + 1 < ((((3 * (21 - χ2 192 35) + χ2 192 36 + 2 * χ2 192 38 + 1 : Int)).toNat + 1 : Nat) : Int) := by unfold SMM; omega
  have cl := cls_f ψ1
  have failc : ∀ η : hf_F, z = 0 → (s, ξ) = (-1 - η 192 16, η) → FP ψ1 η → r = s ∧ ψ 0 12 = ξ 192 15 ∧ ((SNQ φ ψ ∧ ∀ k, ξ 194 k = χ 194 k) ∨ SNR ψ ξ) := by
    intro η hz0 he hf
    cases he
    rw [if_neg (show ¬ ¬ z = 0 from fun q => q hz0)] at e1
    cases e1
    have r16 := iv_at (a := 192) (k := 16) (lo := 0) (u := 940) kI (by decide +kernel)
    have r35 := iv_at (a := 192) (k := 35) (lo := 0) (u := 20) kI (by decide +kernel)
    refine ⟨?_, cl.1.trans hf.1, Or.inl ⟨⟨(cl.2.2 26 3 (by omega) (by omega)).trans fA.1, (cl.2.2 26 5 (by omega) (by omega)).trans fA.2.1, fun k => (cl.2.2 27 k (by omega) (by omega)).trans (fA.2.2.1 k), fun k => (cl.2.2 28 k (by omega) (by omega)).trans (fA.2.2.2.1 k), fun k => (cl.2.2 29 k (by omega) (by omega)).trans (fA.2.2.2.2 k)⟩, ?_⟩⟩
    · rw [cl.2.1, hf.2]
    · rcases l48_g _ _ _ _ _ e2 with q | q
      · exact fun k => (q k).trans (g4 k)
      · omega
  rcases sbp_1 _ _ _ _ _ _ hE (Or.inl rfl) gc hm with ⟨q1, η, s1, s2⟩ | ⟨q1, w, a, k, m', χ', q2, q3, q4, q5, q6, q7, q8, q9, q10⟩
  · rw [if_neg (show ¬ ¬ z3 = 0 from fun q => q q1)] at ga
    cases ga
    exact failc η rfl (e2.symm.trans s1) s2
  · subst q1
    rw [if_pos (show ¬ (1 : Int) = 0 by decide)] at ga
    rw [q2] at e2
    obtain ⟨m', rfl⟩ := smm_1 q4.1.1.2 q3
    obtain ⟨η, u1, u2, u3, u4, u5⟩ := beh_e q4 (Or.inl rfl) q6 q7 q8 q9
    have c38 := q4.2.2.2.1
    have x36 := u1.2.2.2.2.1
    have hx := q4.1.2.2.2.2.2
    by_cases t0 : ψ3 1 5 = 0
    · have t1 : χ' 192 11 = 0 := by
        rcases hx with ⟨x1, x2⟩ | ⟨x1, x2⟩ | ⟨x1, x2, x3⟩ | ⟨x1, x2, x3⟩ | ⟨x1, x2, x3, x4, ⟨x5, _⟩ | ⟨x5, _⟩⟩ <;> omega
      rw [if_pos t0] at ga
      cases ga
      have hm3 : 1 ≤ m' := by
        have o35 := iv_at (a := 192) (k := 35) (lo := 0) (u := 20) q4.1.1.2 (by decide +kernel)
        have o36 := iv_at (a := 192) (k := 36) (lo := 0) (u := 45) q4.1.1.2 (by decide +kernel)
        unfold SMM at q3
        omega
      obtain ⟨m', rfl⟩ : ∃ j, m' = j + 1 := ⟨m' - 1, by omega⟩
      rw [l48_e c38 t1, ← u4, if_pos (show η 192 36 ≤ 0 by omega), F_RideLawsModel_sentence_192_l48_s, if_pos rfl] at e2
      rw [if_pos (show ¬ (1 : Int) = 0 by decide), bnv_e rfl] at e1
      cases e1
      cases e2
      have hS := u1.2.2.2.2.2.2.2.1
      have h34 := hS.2.1
      have h3 := hS.1
      have c34 : 1 ≤ η 192 34 := by
        have hw := u1.2.2.1.1.2
        rw [u1.2.2.2.1] at hw
        have := nbn_nn η (η 192 36).toNat
        by_cases c : η 192 34 = 0
        · rw [c] at hw
          have hw : (0 : Int) = nbn η (η 192 36).toNat + 1 := hw
          omega
        · omega
      have o35 := iv_at (a := 192) (k := 35) (lo := 0) (u := 20) u1.1.1.2 (by decide +kernel)
      have hb := u1.2.2.1.2
      have b38 := u1.2.2.2.1
      have e34 : hf_up η 194 180 (η 192 34) 192 34 = η 192 34 := up_a (by decide)
      have cq : ∀ a k, ¬ a = 0 → ¬ a = 1 → ¬ (a = 52 ∧ k = 5) → F_RideLaws_closeText_0 (hf_up ψ3 52 5 1) a k = ψ3 a k := fun a k g1 g2 g3 => ((cls_f _).2.2 a k g1 g2).trans (hf_up_ne g3)
      generalize hC : F_RideLaws_closeText_0 (hf_up ψ3 52 5 1) = ψ9 at cl cq
      have c5 : ψ9 52 5 = 1 := by rw [← hC, (cls_f _).2.2 52 5 (by decide) (by decide), hf_up_eq]
      have c12 : ψ9 0 12 = ψ3 1 9 := by rw [← hC, (cls_f _).1, up_a (by decide)]
      refine ⟨?_, ?_, Or.inr (Or.inr ⟨?_, ?_, ?_, ?_, fun i hi => ?_⟩)⟩
      · unfold F_Sentence_copyFrom_26_52
        rw [hf_up_ne (by omega), hf_up_eq, cq 52 4 (by decide) (by decide) (by omega)]
        exact u1.2.2.2.2.2.2.1
      · unfold F_Sentence_copyFrom_26_52
        rw [up_a (by decide), up_a (by decide), up_a (by decide), hf_cp_ne (by omega), hf_cp_ne (by omega), hf_cp_ne (by omega), c12, hf_mp_ne (fun q => absurd q.1 (by decide)), up_a (by decide)]
        exact u1.1.2.2.2.1.2.2.2.2.2.2
      · unfold F_Sentence_copyFrom_26_52
        rw [hf_up_eq, c5]
      · rw [hf_mp_ne (fun q => by omega), hf_up_eq]; exact c34
      · rw [hf_mp_ne (fun q => by omega), hf_up_eq]
        unfold F_Sentence_copyFrom_26_52
        rw [hf_up_ne (by omega), hf_up_ne (by omega), hf_up_eq, cq 52 3 (by decide) (by decide) (by omega)]
        omega
      · rw [hf_mp_ne (fun q => by omega), hf_up_eq, cd_cdr (η := η) _ (fun j hj => by
          rw [e34, hf_mp_in (by omega) (by omega), up_a (by decide), show 0 + (180 + 1 + 3 * j - 181) = 3 * j by omega])]
        have hw := u1.2.2.1.1.2
        rw [u1.2.2.2.1, show (η 192 36).toNat = 0 by omega] at hw
        exact hw
      · rw [hf_mp_ne (fun q => by omega), hf_up_eq] at hi
        have hc := hS.2.2.1 i hi
        unfold SKP at hc
        rw [e34, hf_mp_in (by omega) (by omega), hf_mp_in (by omega) (by omega), hf_mp_in (by omega) (by omega), up_a (by decide), up_a (by decide), up_a (by decide), show 0 + (181 + 3 * i - 181) = 3 * i by omega, show 0 + (181 + 3 * i + 1 - 181) = 3 * i + 1 by omega, show 0 + (181 + 3 * i + 2 - 181) = 3 * i + 2 by omega]
        unfold F_Sentence_copyFrom_26_52
        rw [up_a (by decide), up_a (by decide), up_a (by decide), hf_cp_ne (by omega), hf_cp_ne (by omega), hf_cp_eq (by omega), up_a (by decide), up_a (by decide), up_a (by decide), hf_cp_ne (by omega), hf_cp_eq (by omega), hf_cp_ne (by omega), up_a (by decide), up_a (by decide), up_a (by decide), hf_cp_eq (by omega), hf_cp_ne (by omega), hf_cp_ne (by omega), cq 53 i (by decide) (by decide) (by omega), cq 54 i (by decide) (by decide) (by omega), cq 55 i (by decide) (by decide) (by omega)]
        exact hc
    · rw [if_neg t0] at ga
      have t1 : ¬ χ' 192 11 = 0 := by
        rcases hx with ⟨x1, x2⟩ | ⟨x1, x2⟩ | ⟨x1, x2, x3⟩ | ⟨x1, x2, x3⟩ | ⟨x1, x2, x3, x4, ⟨x5, _⟩ | ⟨x5, _⟩⟩ <;> omega
      obtain ⟨ψ5, ξ5, r1, r2, r3⟩ := ref_bad u1.1 1
      rw [bnd_id, r1] at ga
      cases ga
      have hbh : F_RideLawsModel_behind_192 χ' = (0, ξ5) := by
        rw [u5, bnd_id, r2]
        rw [bnp_e rfl]
        by_cases c : F_RideLawsModel_isSign_192 η 41 = 0
        · rw [if_pos c]
        · rw [if_neg c, if_neg (show ¬ ¬ η 192 36 = 0 by omega)]
      have e3 := e2
      rw [l48_w c38 t1, bnd_e hbh, if_neg (show ¬ ¬ (0 : Int) = 0 by decide)] at e3
      rw [← q2] at e2
      exact failc ξ5 rfl e3.symm r3
