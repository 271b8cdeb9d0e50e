/-! a SENTENCE: readOne, a step of depth -/
/-- of an operand, where the leaf is known -/
noncomputable def SAL (φ χ ψ : hf_F) (r : Int) (T m : Nat) (d : Int) : Prop := (r = 0 ∧ SFL ψ χ (m + 1)) ∨ (r = 1 ∧ ∃ (k m' : Nat) (χ' : hf_F), F_RideLawsModel_sentence_192_l48 (m + 1) χ 1 = F_RideLawsModel_sentence_192_l48 m' χ' 1 ∧ SMM χ' + 1 < (m' : Int) ∧ SDN ψ χ' T 0 0 k 0 d ∧ SLW χ χ' T ∧ χ 192 35 + 1 ≤ χ' 192 35)
/-- the model's heap behind the first token of an operand -/
theorem up38 {φ2 ζ : hf_F} (hR : RP φ2 ζ) (hP : PLG 5 φ2 (ζ 194) (ζ 197)) (hS : SCD φ2 ζ 0 0 0) : RP φ2 (hf_up ζ 192 38 1) ∧ PLG 5 φ2 (hf_up ζ 192 38 1 194) (hf_up ζ 192 38 1 197) ∧ SCD φ2 (hf_up ζ 192 38 1) 0 0 0 := by
  have i1 : Inv (hf_up ζ 192 38 1) := iv_up (lo := 0) (u := 1) hR.1.2 (by decide +kernel) (by decide) (by decide)
  refine ⟨rp_f hR hR.1.1 i1 (fun _ _ => rfl) (fun q hq => hf_up_ne (by omega)) (fun _ => rfl) (fun q => up_a (by decide)) (fun _ => rfl) (fun q => up_a (by decide)), plg_f hP (cb_i hR.1.2) (fun _ _ _ => rfl) (fun k _ => up_a (by decide)) (fun k _ => up_a (by decide)), scd_f hS (fun _ => rfl) (fun _ => rfl) (fun _ => rfl) rfl (fun q => up_a (by decide)) (hf_up_ne (by omega))⟩
theorem sal_a {φ χ φ2 ζ ψ : hf_F} {T m : Nat} {d r K : Int} (h : SEX φ χ T d) (hm : SMM χ + 1 < ((m + 1 : Nat) : Int)) (hR : RP φ2 ζ) (hP : PLG 5 φ2 (ζ 194) (ζ 197)) (e34 : ζ 192 34 = χ 192 34) (e36 : ζ 192 36 = (T : Int)) (e37 : ζ 192 37 = d) (f4 : φ2 52 4 = χ 192 35 + 1) (hS : SCD φ2 ζ 0 0 0) (e203 : ∀ j, ζ 203 j = χ 203 j) (hb : χ 192 34 + (T : Int) ≤ 2 * χ 192 35) (h19 : χ 192 35 ≤ 19) (hK : 15 ≤ K ∧ K ≤ 17)
    (ho : F_RideLawsModel_operand_192 χ = LEF (K - 15) ζ) (e : F_Sentence_add_52 φ2 K 0 0 = (r, ψ)) : SAL φ χ ψ r T m d := by
  obtain ⟨u1, u2, u3⟩ := up38 hR hP hS
  have h3 := hS.1
  rw [sad_e (by omega)] at e
  cases e
  rw [lef_a (by omega)] at ho
  have e34' : hf_up ζ 192 38 1 192 34 = χ 192 34 := (hf_up_ne (by omega)).trans e34
  obtain ⟨l1, l2, l3, l4⟩ := leaf_0 (K := K) (s := 0) (v := 0) u1 u2 u3 (by omega) (by omega) (by decide) (by decide)
  exact Or.inr ⟨rfl, sap_fin h ho hm (fun _ => l1) l2 ((cod_o (by decide) (by omega)).trans hf_up_eq) ((cod_o (by decide) (by omega)).trans ((hf_up_ne (by omega)).trans e36)) ((cod_o (by decide) (by omega)).trans ((hf_up_ne (by omega)).trans e37)) (l4.trans f4) l3 (fun j => (cod_o (by decide) (by omega)).trans ((up_a (by decide)).trans (e203 j)))⟩
theorem sal_s {φ χ φ2 ζ ψ : hf_F} {T m : Nat} {d r : Int} (h : SEX φ χ T d) (hm : SMM χ + 1 < ((m + 1 : Nat) : Int)) (hR : RP φ2 ζ) (hP : PLG 5 φ2 (ζ 194) (ζ 197)) (e34 : ζ 192 34 = χ 192 34) (e36 : ζ 192 36 = (T : Int)) (e37 : ζ 192 37 = d) (f4 : φ2 52 4 = χ 192 35 + 1) (hS : SCD φ2 ζ 0 0 0) (e203 : ∀ j, ζ 203 j = χ 203 j) (hb : χ 192 34 + (T : Int) ≤ 2 * χ 192 35) (h19 : χ 192 35 ≤ 19)
    (ho : F_RideLawsModel_operand_192 χ = LEF 3 ζ) (e : F_Sentence_readNamed_52_1_5_k4_1 φ2 18 = (r, ψ)) : SAL φ χ ψ r T m d := by
  obtain ⟨u1, u2, u3⟩ := up38 hR hP hS
  have h3 := hS.1
  have hbb := cb_i u1.1.2
  unfold CB at hbb
  unfold F_Sentence_readNamed_52_1_5_k4_1 at e
  rw [lef_s] at ho
  have hc : φ2 6 1 = hf_up ζ 192 38 1 194 1 := u2.1.2.1
  obtain ⟨z1, ψ1, g1⟩ : ∃ p q, F_Reader_peekNamed_1_5_k2_1 φ2 = (p, q) := ⟨_, _, rfl⟩
  obtain ⟨z2, ξ1, g2⟩ : ∃ p q, F_RideLawsModel_looksAt_192 (hf_up ζ 192 38 1) 3 (hf_up ζ 192 38 1 194 1) = (p, q) := ⟨_, _, rfl⟩
  have g2' : F_RideLawsModel_looksAt_192 (hf_up ζ 192 38 1) 3 (ζ 194 1) = (z2, ξ1) := g2
  rw [bnd_e g1] at e
  rw [bnd_e g2'] at ho
  rcases pn_5_1 u1 hc (by omega) u2.2.1.2.1 g1 g2 with ⟨p1, p2, p3, p4, p5⟩ | ⟨p1, p2, p3⟩
  · subst p1
    subst p4
    rw [if_pos (show ¬ (1 : Int) = 0 by decide), p5, hf_up_eq] at ho
    have hRg := rp_got u1 (v := z1) (by omega) (by omega)
    have hPg : PLG 5 ψ1 (hf_up (hf_up ζ 192 38 1) 192 18 z1 194) (hf_up (hf_up ζ 192 38 1) 192 18 z1 197) := plg_f u2 (cb_i u1.1.2) (fun _ _ _ => rfl) (fun k _ => up_a (by decide)) (fun k _ => up_a (by decide))
    have hSg : SCD ψ1 (hf_up (hf_up ζ 192 38 1) 192 18 z1) 0 0 0 := scd_f u3 (fun _ => rfl) (fun _ => rfl) (fun _ => rfl) rfl (fun q => up_a (by decide)) (hf_up_ne (by omega))
    have x34 : hf_up (hf_up ζ 192 38 1) 192 18 z1 192 34 = χ 192 34 := (hf_up_ne (by omega)).trans ((hf_up_ne (by omega)).trans e34)
    obtain ⟨l1, l2, l3, l4, l5, l6, l7, l8⟩ := leaf_n (K := 18) (s := 0) (v := z1) hRg hPg hSg (by omega) (by decide) (by decide) (by omega)
    have hk3 : F_Reader_advance_1 ψ1 52 3 = ψ1 52 3 := fr_fd (K_F_Reader_advance_1 hR.1.1 rfl).2 52 3 (by decide)
    rw [if_pos (show ¬ z1 = -1 by omega), bnv_e rfl, bnd_id, sad_e (by omega)] at e
    cases e
    exact Or.inr ⟨rfl, sap_fin h ho hm (fun _ => l1) l2 (l7.trans ((hf_up_ne (by omega)).trans hf_up_eq)) (l5.trans ((hf_up_ne (by omega)).trans ((hf_up_ne (by omega)).trans e36))) (l6.trans ((hf_up_ne (by omega)).trans ((hf_up_ne (by omega)).trans e37))) (l4.trans f4) l3 (fun j => (l8 j).trans ((up_a (by decide)).trans ((up_a (by decide)).trans (e203 j))))⟩
  · subst p1
    rw [if_neg (show ¬ ¬ (0 : Int) = 0 by decide)] at ho
    rw [if_neg (show ¬ ¬ z1 = -1 from fun q => q p2)] at e
    cases e
    exact Or.inl ⟨rfl, sfl_1 h.2.2.2.1 ho p3⟩
theorem sal_w {φ χ φ2 ζ ψ : hf_F} {T m : Nat} {d r : Int} (h : SEX φ χ T d) (hm : SMM χ + 1 < ((m + 1 : Nat) : Int)) (hR : RP φ2 ζ) (hP : PLG 5 φ2 (ζ 194) (ζ 197)) (e34 : ζ 192 34 = χ 192 34) (e36 : ζ 192 36 = (T : Int)) (e37 : ζ 192 37 = d) (f4 : φ2 52 4 = χ 192 35 + 1) (hS : SCD φ2 ζ 0 0 0) (e203 : ∀ j, ζ 203 j = χ 203 j) (hb : χ 192 34 + (T : Int) ≤ 2 * χ 192 35) (h19 : χ 192 35 ≤ 19)
    (ho : F_RideLawsModel_operand_192 χ = LEF 4 ζ) (e : F_Sentence_readNamed_52_1_5_k4_2 φ2 19 = (r, ψ)) : SAL φ χ ψ r T m d := by
  obtain ⟨u1, u2, u3⟩ := up38 hR hP hS
  have h3 := hS.1
  have hbb := cb_i u1.1.2
  unfold CB at hbb
  unfold F_Sentence_readNamed_52_1_5_k4_2 at e
  rw [lef_w] at ho
  have hc : φ2 6 2 = hf_up ζ 192 38 1 194 2 := u2.1.2.2.1
  obtain ⟨z1, ψ1, g1⟩ : ∃ p q, F_Reader_peekNamed_1_5_k2_2 φ2 = (p, q) := ⟨_, _, rfl⟩
  obtain ⟨z2, ξ1, g2⟩ : ∃ p q, F_RideLawsModel_looksAt_192 (hf_up ζ 192 38 1) 11 (hf_up ζ 192 38 1 194 2) = (p, q) := ⟨_, _, rfl⟩
  have g2' : F_RideLawsModel_looksAt_192 (hf_up ζ 192 38 1) 11 (ζ 194 2) = (z2, ξ1) := g2
  rw [bnd_e g1] at e
  rw [bnd_e g2'] at ho
  rcases pn_5_2 u1 hc (by omega) u2.2.1.2.2.1 g1 g2 with ⟨p1, p2, p3, p4, p5⟩ | ⟨p1, p2, p3⟩
  · subst p1
    subst p4
    rw [if_pos (show ¬ (1 : Int) = 0 by decide), p5, hf_up_eq] at ho
    have hRg := rp_got u1 (v := z1) (by omega) (by omega)
    have hPg : PLG 5 ψ1 (hf_up (hf_up ζ 192 38 1) 192 18 z1 194) (hf_up (hf_up ζ 192 38 1) 192 18 z1 197) := plg_f u2 (cb_i u1.1.2) (fun _ _ _ => rfl) (fun k _ => up_a (by decide)) (fun k _ => up_a (by decide))
    have hSg : SCD ψ1 (hf_up (hf_up ζ 192 38 1) 192 18 z1) 0 0 0 := scd_f u3 (fun _ => rfl) (fun _ => rfl) (fun _ => rfl) rfl (fun q => up_a (by decide)) (hf_up_ne (by omega))
    have x34 : hf_up (hf_up ζ 192 38 1) 192 18 z1 192 34 = χ 192 34 := (hf_up_ne (by omega)).trans ((hf_up_ne (by omega)).trans e34)
    obtain ⟨l1, l2, l3, l4, l5, l6, l7, l8⟩ := leaf_n (K := 19) (s := 0) (v := z1) hRg hPg hSg (by omega) (by decide) (by decide) (by omega)
    have hk3 : F_Reader_advance_1 ψ1 52 3 = ψ1 52 3 := fr_fd (K_F_Reader_advance_1 hR.1.1 rfl).2 52 3 (by decide)
    rw [if_pos (show ¬ z1 = -1 by omega), bnv_e rfl, bnd_id, sad_e (by omega)] at e
    cases e
    exact Or.inr ⟨rfl, sap_fin h ho hm (fun _ => l1) l2 (l7.trans ((hf_up_ne (by omega)).trans hf_up_eq)) (l5.trans ((hf_up_ne (by omega)).trans ((hf_up_ne (by omega)).trans e36))) (l6.trans ((hf_up_ne (by omega)).trans ((hf_up_ne (by omega)).trans e37))) (l4.trans f4) l3 (fun j => (l8 j).trans ((up_a (by decide)).trans ((up_a (by decide)).trans (e203 j))))⟩
  · subst p1
    rw [if_neg (show ¬ ¬ (0 : Int) = 0 by decide)] at ho
    rw [if_neg (show ¬ ¬ z1 = -1 from fun q => q p2)] at e
    cases e
    exact Or.inl ⟨rfl, sfl_1 h.2.2.2.1 ho p3⟩
theorem sal_n {φ χ φ2 ζ ψ : hf_F} {T m : Nat} {d r K : Int} (h : SEX φ χ T d) (hm : SMM χ + 1 < ((m + 1 : Nat) : Int)) (hR : RP φ2 ζ) (hP : PLG 5 φ2 (ζ 194) (ζ 197)) (e34 : ζ 192 34 = χ 192 34) (e36 : ζ 192 36 = (T : Int)) (e37 : ζ 192 37 = d) (f4 : φ2 52 4 = χ 192 35 + 1) (hS : SCD φ2 ζ 0 0 0) (e203 : ∀ j, ζ 203 j = χ 203 j) (hb : χ 192 34 + (T : Int) ≤ 2 * χ 192 35) (h19 : χ 192 35 ≤ 19) (hK : 20 ≤ K ∧ K ≤ 22)
    (ho : F_RideLawsModel_operand_192 χ = LEF (K - 15) ζ) (e : F_Sentence_readCompared_52_1 φ2 K = (r, ψ)) : SAL φ χ ψ r T m d := by
  obtain ⟨u1, u2, u3⟩ := up38 hR hP hS
  have h3 := hS.1
  have hx := hR.2.2.2.2.2
  by_cases c : φ2 1 5 = 5 ∧ 60 ≤ φ2 1 7 ∧ φ2 1 7 ≤ 62
  · have c2 : ζ 192 11 = 3 ∧ 60 ≤ ζ 192 14 ∧ ζ 192 14 ≤ 62 ∧ φ2 1 7 = ζ 192 14 := by
      rcases hx with ⟨x1, x2⟩ | ⟨x1, x2⟩ | ⟨x1, x2, x3⟩ | ⟨x1, x2, x3⟩ | ⟨x1, x2, x3, x4, ⟨x5, _⟩ | ⟨x5, _⟩⟩ <;> omega
    rw [cmp_1 c] at e
    rw [lef_c (by omega) ⟨c2.1, c2.2.1, c2.2.2.1⟩, ← c2.2.2.2] at ho
    have ra := rp_adv u1 rfl rfl
    have hP3 := plg_t u1.1.2 u2 (tcf_a u1) (tmf_n u1.1.2).1
    obtain ⟨_, _, _, n30, n34, n35, n36, n38⟩ := (K_F_RideLawsModel_next_192 u1.1.2 rfl).2.2
    have n37 : F_RideLawsModel_next_192 (hf_up ζ 192 38 1) 192 37 = hf_up ζ 192 38 1 192 37 := fr_fd ra.2.2 192 37 (by decide)
    have hS3 : SCD (F_Reader_advance_1 φ2) (F_RideLawsModel_next_192 (hf_up ζ 192 38 1)) 0 0 0 := scd_f u3 (fun q => fr_at ra.2.1 53 (by decide) q) (fun q => fr_at ra.2.1 54 (by decide) q) (fun q => fr_at ra.2.1 55 (by decide) q) (fr_fd ra.2.1 52 3 (by decide)) (fun q => next_a (by decide) _ q) n34
    have k3 : F_Reader_advance_1 φ2 52 3 = φ2 52 3 := fr_fd ra.2.1 52 3 (by decide)
    have k4 : F_Reader_advance_1 φ2 52 4 = φ2 52 4 := fr_fd ra.2.1 52 4 (by decide)
    have e203' : ∀ j, F_RideLawsModel_next_192 (hf_up ζ 192 38 1) 203 j = χ 203 j := fun j => (next_a (by decide) _ j).trans ((up_a (by decide)).trans (e203 j))
    have z34 : hf_up ζ 192 38 1 192 34 = χ 192 34 := (hf_up_ne (by omega)).trans e34
    have z36 : hf_up ζ 192 38 1 192 36 = (T : Int) := (hf_up_ne (by omega)).trans e36
    have z37 : hf_up ζ 192 38 1 192 37 = d := (hf_up_ne (by omega)).trans e37
    have z38 : hf_up ζ 192 38 1 192 38 = 1 := hf_up_eq
    have ra1 := ra.1
    generalize F_RideLawsModel_next_192 (hf_up ζ 192 38 1) = χ3 at ho ra1 hP3 n34 n36 n37 n38 hS3 e203'
    generalize F_Reader_advance_1 φ2 = φ3 at e ra1 hP3 hS3 k3 k4
    have hx3 := ra1.2.2.2.2.2
    have r14 := iv_at (a := 192) (k := 14) (lo := 0) (u := 8214) ra1.1.2 (by decide +kernel)
    have r7 := iv_at (a := 1) (k := 7) (lo := -128) (u := 999) ra1.1.1 (by decide +kernel)
    by_cases c4 : φ3 1 5 = 4
    · have c5 : χ3 192 11 = 2 ∧ φ3 1 7 = χ3 192 14 := by
        rcases hx3 with ⟨x1, x2⟩ | ⟨x1, x2⟩ | ⟨x1, x2, x3⟩ | ⟨x1, x2, x3⟩ | ⟨x1, x2, x3, x4, ⟨x5, _⟩ | ⟨x5, _⟩⟩ <;> omega
      rw [if_pos c5.1, ← c5.2] at ho
      rw [bnd_e (pnu_1 c4 (by omega) (by omega)), if_pos (show ¬ φ3 1 7 = -1 by omega)] at e
      obtain ⟨l1, l2, l3, l4, l5, l6, l7, l8⟩ := leaf_n (K := K) (s := φ2 1 7) (v := φ3 1 7) ra1 hP3 hS3 (by omega) (by omega) (by omega) (by omega)
      have hk3 : F_Reader_advance_1 φ3 52 3 = φ3 52 3 := fr_fd (K_F_Reader_advance_1 ra1.1.1 rfl).2 52 3 (by decide)
      have hs3 := hS3.1
      rw [sad_e (by omega)] at e
      cases e
      exact Or.inr ⟨rfl, sap_fin h ho hm (fun _ => l1) l2 (l7.trans (n38.trans z38)) (l5.trans (n36.trans z36)) (l6.trans (n37.trans z37)) (l4.trans (k4.trans f4)) l3 (fun j => (l8 j).trans (e203' j))⟩
    · have c5 : ¬ χ3 192 11 = 2 := by
        rcases hx3 with ⟨x1, x2⟩ | ⟨x1, x2⟩ | ⟨x1, x2, x3⟩ | ⟨x1, x2, x3⟩ | ⟨x1, x2, x3, x4, ⟨x5, _⟩ | ⟨x5, _⟩⟩ <;> omega
      obtain ⟨ψ5, ξ5, r1, r2, r3⟩ := ref_bad ra1 1
      rw [if_neg c5, r2] at ho
      rw [bnd_e (pnu_0 c4), if_neg (show ¬ ¬ (-1 : Int) = -1 by decide), r1] at e
      cases e
      exact Or.inl ⟨rfl, sfl_1 h.2.2.2.1 ho r3⟩
  · have c2 : ¬ (ζ 192 11 = 3 ∧ 60 ≤ ζ 192 14 ∧ ζ 192 14 ≤ 62) := by
      intro q
      apply c
      rcases hx with ⟨x1, x2⟩ | ⟨x1, x2⟩ | ⟨x1, x2, x3⟩ | ⟨x1, x2, x3⟩ | ⟨x1, x2, x3, x4, ⟨x5, _⟩ | ⟨x5, _⟩⟩ <;> omega
    obtain ⟨ψ5, ξ5, r1, r2, r3⟩ := ref_bad u1 1
    rw [cmp_n c, r1] at e
    cases e
    rw [lef_n (by omega) c2, r2] at ho
    exact Or.inl ⟨rfl, sfl_1 h.2.2.2.1 ho r3⟩
theorem sap_x {RO RC : hf_F → Int × hf_F} {d : Int} (hd : 1 ≤ d ∧ d ≤ 8) (hA : SAP RO (d + 1)) (hB : SBP RC (d + 1)) : SAP (ROX RO RC) d := by
  intro φ χ ψ r T m h e hm
  have o35 := iv_at (a := 192) (k := 35) (lo := 0) (u := 20) h.1.1.2 (by decide +kernel)
  obtain ⟨m, rfl⟩ := smm_1 h.1.1.2 hm
  have hR := h.1
  have h38 := h.2.2.2.1
  have h36 := h.2.2.2.2.1
  have h37 := h.2.2.2.2.2.1
  have h4 := h.2.2.2.2.2.2.1
  have hd8 : jm_n (χ 192 37) ≤ 8 := by rw [h37, show jm_n d = d from hi_n (by unfold hi; omega)]; omega
  obtain ⟨ψ4, ξ4, r1, r2, r3⟩ := ref_bad hR 4
  obtain ⟨ψb, ξb, b1, b2, b3⟩ := ref_bad hR 1
  have wn := isw_z hR (k := 14) (by decide) (w := 7237492) rfl
  have sg := sg_z hR 40
  have lf := leaf_e hR
  by_cases tc : φ 1 5 = 5 ∧ φ 1 7 = 40
  · have g1 : F_Reader_isSignOf_1 φ 40 = 1 := by rw [sgo_e, if_pos tc]
    rw [if_pos tc] at sg
    have g3 : F_RideLawsModel_isWord_192 χ 7237492 = 0 := by rw [wn]; intro z; have := z.1; omega
    rw [rox_c g1] at e
    have ho := opn_c g3 sg
    by_cases c20 : 20 ≤ φ 52 4
    · rw [if_pos c20, r1] at e
      cases e
      rw [if_pos (show χ 192 35 = 20 by omega), r2] at ho
      exact Or.inl ⟨rfl, sfl_1 h38 ho r3⟩
    · rw [if_neg c20] at e
      rw [if_neg (show ¬ χ 192 35 = 20 by omega), if_pos hd8] at ho
      obtain ⟨φ2, ζ, x1, x2, x3, x4, x5, x6, x7, x8, x9, x10, x11, x12, x13, x14⟩ := opn_0 h (by omega)
      rw [x1] at e
      rw [x2] at ho
      obtain ⟨y1, y2, y3, y4⟩ := sex_op (c := 23) x3 x4 x5 x6 x7 x8 x9 x10 x11 x12 x13 x14 (Or.inr rfl)
      have hl : F_RideLawsModel_sentence_192_l48 (m + 1) χ 1 = F_RideLawsModel_sentence_192_l48 m (PSH 23 ζ) 1 := by rw [l48_o h38, bnd_e ho, if_pos (show ¬ (1 : Int) = 0 by decide)]
      generalize PSH 23 ζ = ξ at hl y1 y2 y3 y4
      have z36 := y1.2.2.2.2.1
      have z38 := y1.2.2.2.1
      have hm2 : SMM ξ + 1 < (m : Int) := by unfold SMM at hm ⊢; omega
      obtain ⟨z, ψ1, g⟩ : ∃ p q, RC φ2 = (p, q) := ⟨_, _, rfl⟩
      rw [bnd_e g] at e
      rcases hB _ _ _ _ _ _ y1 (Or.inr (by rw [show T + 1 - 1 = T by omega]; exact y2)) g hm2 with ⟨q1, η, s1, s2⟩ | ⟨q1, w, a, k, m2, χ2, q2, q3, q4, q5, q6, q7, q8, q9, q10⟩
      · rw [if_pos q1] at e
        cases e
        exact Or.inl ⟨rfl, η, hl.trans s1, s2⟩
      · subst q1
        rw [if_neg (show ¬ (1 : Int) = 0 by decide)] at e
        rcases cl_x q2 q3 q4 ((q5 T (by omega)).trans y2) q6 q7 q8 q9 e with ⟨f1, η, s1, s2⟩ | ⟨f1, k', m', χ', f2, f3, f4, f5, f6⟩
        · exact Or.inl ⟨f1, η, hl.trans s1, s2⟩
        · exact Or.inr ⟨f1, k', m', χ', hl.trans f2, f3, f4, fun j hj => (f5 j hj).trans ((q5 j (by omega)).trans (y3 j hj)), by omega⟩
  · have g1 : F_Reader_isSignOf_1 φ 40 = 0 := by rw [sgo_e, if_neg tc]
    rw [if_neg tc] at sg
    by_cases tb : φ 1 5 = 3 ∧ 14 ≤ φ 1 7 ∧ φ 1 7 ≤ 22
    · have gb : F_Sentence_beginsOne_1 φ = 1 := by rw [bo_e, if_pos tb]
      by_cases tn : φ 1 7 = 14
      · have g3 : ¬ F_RideLawsModel_isWord_192 χ 7237492 = 0 := by rw [wn]; exact fun z => z ⟨tb.1, tn⟩
        rw [rox_n g1 gb tn] at e
        have ho := opn_n g3
        by_cases c20 : 20 ≤ φ 52 4
        · rw [if_pos c20, r1] at e
          cases e
          rw [if_pos (show χ 192 35 = 20 by omega), r2] at ho
          exact Or.inl ⟨rfl, sfl_1 h38 ho r3⟩
        · rw [if_neg c20] at e
          rw [if_neg (show ¬ χ 192 35 = 20 by omega), if_pos hd8] at ho
          obtain ⟨φ2, ζ, x1, x2, x3, x4, x5, x6, x7, x8, x9, x10, x11, x12, x13, x14⟩ := opn_0 h (by omega)
          rw [x1] at e
          rw [x2] at ho
          obtain ⟨y1, y2, y3, y4⟩ := sex_op (c := 20) x3 x4 x5 x6 x7 x8 x9 x10 x11 x12 x13 x14 (Or.inl rfl)
          have hl : F_RideLawsModel_sentence_192_l48 (m + 1) χ 1 = F_RideLawsModel_sentence_192_l48 m (PSH 20 ζ) 1 := by rw [l48_o h38, bnd_e ho, if_pos (show ¬ (1 : Int) = 0 by decide)]
          generalize PSH 20 ζ = ξ at hl y1 y2 y3 y4
          have z36 := y1.2.2.2.2.1
          have z38 := y1.2.2.2.1
          have hm2 : SMM ξ + 1 < (m : Int) := by unfold SMM at hm ⊢; omega
          obtain ⟨z, ψ1, g⟩ : ∃ p q, RO φ2 = (p, q) := ⟨_, _, rfl⟩
          rw [bnd_e g] at e
          rcases hA _ _ _ _ _ _ y1 g hm2 with ⟨q1, η, s1, s2⟩ | ⟨q1, k, m2, χ2, q2, q3, q4, q5, q6⟩
          · rw [if_pos q1] at e
            cases e
            exact Or.inl ⟨rfl, η, hl.trans s1, s2⟩
          · subst q1
            rw [if_neg (show ¬ (1 : Int) = 0 by decide), bnd_e (sad_e (sdn_room q4)), if_neg (show ¬ (1 : Int) = 0 by decide)] at e
            cases e
            exact Or.inr ⟨rfl, k + 1, m2, χ2, hl.trans q2, q3, sdn_not q4 ((q5 T (by omega)).trans y2), fun j hj => (q5 j (by omega)).trans (y3 j hj), by omega⟩
      · have g3 : F_RideLawsModel_isWord_192 χ 7237492 = 0 := by rw [wn]; intro z; exact tn z.2
        rw [if_pos (show φ 1 5 = 3 ∧ 15 ≤ φ 1 7 ∧ φ 1 7 ≤ 22 from ⟨tb.1, by omega, tb.2.2⟩)] at lf
        have ho := opn_l g3 sg lf (by omega)
        have hk : φ 1 7 = 15 ∨ φ 1 7 = 16 ∨ φ 1 7 = 17 ∨ φ 1 7 = 18 ∨ φ 1 7 = 19 ∨ φ 1 7 = 20 ∨ φ 1 7 = 21 ∨ φ 1 7 = 22 := by omega
        by_cases c20 : 20 ≤ φ 52 4
        · have er : ROX RO RC φ = F_Reader_refuse_1 φ 4 := by
            rcases hk with q | q | q | q | q | q | q | q
            · rw [rox_15 g1 gb q, if_pos c20]
            · rw [rox_16 g1 gb q, if_pos c20]
            · rw [rox_17 g1 gb q, if_pos c20]
            · rw [rox_18 g1 gb q, if_pos c20]
            · rw [rox_19 g1 gb q, if_pos c20]
            · rw [rox_20 g1 gb q, if_pos c20]
            · rw [rox_21 g1 gb q, if_pos c20]
            · rw [rox_22 g1 gb q, if_pos c20]
          rw [er, r1] at e
          cases e
          rw [if_pos (show χ 192 35 = 20 by omega), r2] at ho
          exact Or.inl ⟨rfl, sfl_1 h38 ho r3⟩
        · rw [if_neg (show ¬ χ 192 35 = 20 by omega), if_pos hd8] at ho
          obtain ⟨φ2, ζ, x1, x2, x3, x4, x5, x6, x7, x8, x9, x10, x11, x12, x13, x14⟩ := opn_0 h (by omega)
          rw [x2] at ho
          rcases hk with q | q | q | q | q | q | q | q
          · rw [rox_15 g1 gb q, if_neg c20, x1] at e
            exact sal_a (K := 15) h hm x3 x4 x6 x8 x9 x11 x12 x13 x14 (by omega) (by decide) (by rw [ho, q]) e
          · rw [rox_16 g1 gb q, if_neg c20, x1] at e
            exact sal_a (K := 16) h hm x3 x4 x6 x8 x9 x11 x12 x13 x14 (by omega) (by decide) (by rw [ho, q]) e
          · rw [rox_17 g1 gb q, if_neg c20, x1] at e
            exact sal_a (K := 17) h hm x3 x4 x6 x8 x9 x11 x12 x13 x14 (by omega) (by decide) (by rw [ho, q]) e
          · rw [rox_18 g1 gb q, if_neg c20, x1] at e
            exact sal_s h hm x3 x4 x6 x8 x9 x11 x12 x13 x14 (by omega) (by rw [ho, q]; rfl) e
          · rw [rox_19 g1 gb q, if_neg c20, x1] at e
            exact sal_w h hm x3 x4 x6 x8 x9 x11 x12 x13 x14 (by omega) (by rw [ho, q]; rfl) e
          · rw [rox_20 g1 gb q, if_neg c20, x1] at e
            exact sal_n (K := 20) h hm x3 x4 x6 x8 x9 x11 x12 x13 x14 (by omega) (by decide) (by rw [ho, q]) e
          · rw [rox_21 g1 gb q, if_neg c20, x1] at e
            exact sal_n (K := 21) h hm x3 x4 x6 x8 x9 x11 x12 x13 x14 (by omega) (by decide) (by rw [ho, q]) e
          · rw [rox_22 g1 gb q, if_neg c20, x1] at e
            exact sal_n (K := 22) h hm x3 x4 x6 x8 x9 x11 x12 x13 x14 (by omega) (by decide) (by rw [ho, q]) e
    · have gb : F_Sentence_beginsOne_1 φ = 0 := by rw [bo_e, if_neg tb]
      have g3 : F_RideLawsModel_isWord_192 χ 7237492 = 0 := by
        rw [wn]; intro z; exact tb ⟨z.1, by have := z.2; omega, by have := z.2; omega⟩
      rw [if_neg (show ¬ (φ 1 5 = 3 ∧ 15 ≤ φ 1 7 ∧ φ 1 7 ≤ 22) from fun z => tb ⟨z.1, by omega, z.2.2⟩)] at lf
      rw [rox_b g1 gb, b1] at e
      cases e
      have ho := opn_b g3 sg lf (by decide)
      rw [b2] at ho
      exact Or.inl ⟨rfl, sfl_1 h38 ho b3⟩
