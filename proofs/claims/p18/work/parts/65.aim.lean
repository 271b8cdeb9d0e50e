/-! aim -/
noncomputable def AIV (χ0 φ0 φ χ : hf_F) : Prop := SCR φ χ ∧ SAV χ0 χ ∧ (∀ k, k < 180 → χ 194 k = χ0 194 k) ∧ Inv χ ∧ F43 φ0 φ ∧ χ 192 23 = χ0 192 23 ∧ χ 192 24 = χ0 192 24
noncomputable def AIR (χ0 φ0 : hf_F) (p q : Int × hf_F) : Prop := SCR p.2 q.2 ∧ F43 φ0 p.2 ∧ C18 χ0 q.2 ∧ ((p.1 = -1 ∧ q.1 = -1 ∧ q.2 192 23 = χ0 192 23 ∧ q.2 192 24 = χ0 192 24) ∨ (0 ≤ p.1 ∧ q.1 = p.1.tdiv 8 ∧ q.2 192 23 = p.1.tmod 8 ∧ q.2 192 24 = 1))
theorem aim_i (law most l3 : Int) (hl : 0 ≤ law ∧ law ≤ 7) (hm : 1 ≤ most) (hm2 : most ≤ 99) {χ0 φ0 : hf_F} (h3 : 0 ≤ l3) {Kc Km : hf_F → Int → Int → Int → Int × hf_F} (h33 : l3 < χ0 194 3) (hK : ∀ φ χ, AIV χ0 φ0 φ χ → AIR χ0 φ0 (Kc φ law most (l3 + 1)) (Km χ law most (l3 + 1))) :
    ∀ (n m : Nat) (φ χ : hf_F) (l4 : Int), 8 - l4 < n → 8 - l4 < m → 0 ≤ l4 → l4 ≤ 8 → AIV χ0 φ0 φ χ → AIR χ0 φ0 (F_Outlook_bestMount_187_l18 Kc n φ law most l3 l4) (F_RideLawsModel_aim_192_l44 Km m χ law most l3 l4) := by
  intro n
  induction n with
  | zero => intro m φ χ l4 h1 h2 h3 h4; omega
  | succ n ih =>
    intro m φ χ l4 h1 h2 h4 h5 hA
    obtain ⟨m, rfl⟩ : ∃ j, m = j + 1 := ⟨m - 1, by omega⟩
    have hA0 := hA
    obtain ⟨a1, a2, a3, a4, a5, a6, a7⟩ := hA
    have hb := cb_i a4
    have hr := scr_srb hb a1
    have hbb := hb
    unfold CB at hbb
    have e33 := a3 3 (by decide)
    rw [F_Outlook_bestMount_187_l18_s, F_RideLawsModel_aim_192_l44_s, show φ 6 1 = χ 194 1 from a1.1.1.2.1]
    by_cases c : χ 194 1 ≤ l4
    · rw [if_pos c, if_pos c]
      exact hK φ χ hA0
    · rw [if_neg c, if_neg c]
      have hw := whym_17 (by omega) a1.2.1 l3.toNat l4.toNat (by omega) (by omega)
      rw [show ((l3.toNat : Nat) : Int) = l3 by omega, show ((l4.toNat : Nat) : Int) = l4 by omega] at hw
      rw [bnp_e hw, bnp_e rfl]
      by_cases c2 : F_RideLawsModel_whyMount_192 χ l3 l4 = 0
      · rw [c2, if_neg (fun q => q rfl), if_pos (show (0 : Int) ≤ 0 by decide), bnv_e rfl, bnv_e rfl]
        obtain ⟨z1, z2⟩ := whym_z (hw.trans c2)
        obtain ⟨t1, t2⟩ := tri_c hb a1
        have hc := cpy_43_17 φ
        generalize F_State_copyFrom_43_17 φ = φ1 at t1 t2 hc ⊢
        have e112 : (112 + l3).toNat = 112 + l3.toNat := by omega
        have hmm : ∀ k, hf_up χ 194 (112 + l3.toNat) (l4 + 1) 194 k = if k = 112 + l3.toNat then ((l4.toNat : Nat) : Int) + 1 else χ 194 k := fun k => by
          by_cases c4 : k = 112 + l3.toNat
          · rw [if_pos c4, c4, hf_up_eq]; omega
          · rw [if_neg c4, up_k c4]
        obtain ⟨s1, s2⟩ := sit_43 (c := χ 194) (r := l3.toNat) (s := l4.toNat) (by omega) (by omega) (by omega) (by omega) t1.2.1 (by rw [hc.2.2.2.1 l3.toNat (by omega)]; exact z1) (by rw [hc.2.2.1 l4.toNat (by omega)]; exact z2) hmm
        rw [show ((l3.toNat : Nat) : Int) = l3 by omega, show ((l4.toNat : Nat) : Int) = l4 by omega] at s1 s2
        have hI2 : Inv (hf_up χ 194 (112 + l3).toNat (l4 + 1)) := iv_upI (s := 112) (t := 118) (lo := 0) (u := 8) (z := 112 + l3) a4 (by decide +kernel) (by omega) (by omega) (by omega) (by omega)
        rw [e112] at hI2 ⊢
        have hft : FT χ (hf_up χ 194 (112 + l3.toNat) (l4 + 1)) := fun a k q => hf_up_ne (fun w => q (by omega))
        have hT : TRI (F_State_sitDown_43 φ1 l3 l4) (hf_up χ 194 (112 + l3.toNat) (l4 + 1)) := by
          refine ⟨plg_f t1.1 hb (fun a k q => s2 a k (by omega)) (fun k q => hft 194 k (by omega)) (fun k q => hft 197 k (by omega)), ?_⟩
          exact stg_o ⟨s1, atg_f hb t1.2.2 (fun k => s2 44 k (by decide)) (fun k q1 q2 => up_k (by omega))⟩ hb (fun _ _ _ => rfl) (fun k q => hft 194 k (by omega)) (fun _ _ _ => rfl) hr
        have f1 : F43 φ (F_State_sitDown_43 φ1 l3 l4) := fun a k q => (s2 a k (by omega)).trans (t2 a k q)
        generalize F_State_sitDown_43 φ1 l3 l4 = φ2 at hT f1 ⊢
        generalize hf_up χ 194 (112 + l3.toNat) (l4 + 1) = χ1 at hI2 hft hT ⊢
        obtain ⟨z, ψ, ξ, i1, i2, i3, i4, i5⟩ := hin_l law 1 most ((301 - 1 : Int).toNat + 1) ((301 - 1 : Int).toNat + 1) φ2 χ1 1 (by omega) (by omega) (by decide) (by omega) hI2 hT
        have i1' : F_Outlook_ticksTillTrialHolds_187 φ2 law most = (z, ψ) := i1
        have i2' : F_RideLawsModel_holdsIn_192 χ1 law 1 most = (z, F_RideLawsModel_back_192 ξ) := by
          unfold F_RideLawsModel_holdsIn_192
          rw [if_pos (show ¬ (1 : Int) = 0 by decide)]
          exact i2
        rw [bnd_e i1', bnd_e i2']
        have hIb := (K_F_RideLawsModel_holdsIn_192 hI2 hl.1 hl.2 (by decide) (by decide) (by omega) (by omega) i2').1
        have sv := sav_f a2 (ft_t hft i3)
        obtain ⟨b1, b2⟩ := sav_b sv
        have f2 : F43 φ0 ψ := f43_t a5 (f43_t f1 i4)
        have b3 : ∀ k, k < 180 → F_RideLawsModel_back_192 ξ 194 k = χ0 194 k := b1.1
        have b4 : CKM χ (F_RideLawsModel_back_192 ξ) := ⟨fun k hk => (b3 k hk).trans (a3 k hk).symm, fun k hk => (b1.2.1 k hk).trans (a2.2 197 k (by omega) (by omega) (by omega)).symm, fun k => (b1.2.2.1 k).trans (a2.2 199 k (by omega) (by omega) (by omega)).symm, b1.2.2.2.trans (a2.2 192 22 (by omega) (by omega) (by omega)).symm⟩
        have g1 : SCR ψ (F_RideLawsModel_back_192 ξ) := scr_m hb (scr_43 hb a1 (f43_t f1 i4)) b4
        have e23 : F_RideLawsModel_back_192 ξ 192 23 = χ 192 23 := (back_o ξ 192 23 (by omega)).trans ((i3 192 23 (by omega)).trans (hft 192 23 (by omega)))
        have e24 : F_RideLawsModel_back_192 ξ 192 24 = χ 192 24 := (back_o ξ 192 24 (by omega)).trans ((i3 192 24 (by omega)).trans (hft 192 24 (by omega)))
        generalize F_RideLawsModel_back_192 ξ = ζ at b1 b2 b3 b4 g1 e23 e24 hIb ⊢
        by_cases c3 : z = -1
        · rw [if_pos c3, if_neg (show ¬ 0 ≤ z by omega)]
          exact ih m ψ ζ (l4 + 1) (by omega) (by omega) (by omega) (by omega) ⟨g1, b2, b3, hIb, f2, e23.trans a6, e24.trans a7⟩
        · rw [if_neg c3, if_pos (show 0 ≤ z by omega)]
          refine ⟨scr_f (cb_i hIb) g1 (fun _ _ _ => rfl) rfl (fun _ => rfl) (fun _ _ => rfl) (fun _ _ => rfl), f2, fun k hk => sav_18 b2 k hk, Or.inr ⟨?_, ?_, ?_, ?_⟩⟩
          · show 0 ≤ l3 * 8 + l4; omega
          · show l3 = (l3 * 8 + l4).tdiv 8
            rw [Int.tdiv_eq_ediv_of_nonneg (by omega)]; omega
          · show l4 = (l3 * 8 + l4).tmod 8
            rw [Int.tmod_eq_emod_of_nonneg (by omega)]; omega
          · rfl
      · have hp : ¬ F_RideLawsModel_whyMount_192 χ l3 l4 ≤ 0 := fun q => by
          have := (K_F_RideLawsModel_whyMount_192 a4 h3 (by omega) h4 (by omega) rfl).1
          omega
        rw [if_pos c2, if_neg hp]
        exact ih m φ χ (l4 + 1) (by omega) (by omega) (by omega) (by omega) hA0
theorem aim_o (law most : Int) (hl : 0 ≤ law ∧ law ≤ 7) (hm : 1 ≤ most) (hm2 : most ≤ 99) {χ0 φ0 : hf_F} : ∀ (n m : Nat) (φ χ : hf_F) (l3 : Int), 6 - l3 < n → 6 - l3 < m → 0 ≤ l3 → l3 ≤ 6 → AIV χ0 φ0 φ χ → AIR χ0 φ0 (F_Outlook_bestMount_187_l2 n φ law most l3) (F_RideLawsModel_aim_192_l31 m χ law most l3) := by
  intro n
  induction n with
  | zero => intro m φ χ l3 h1 h2 h3 h4; omega
  | succ n ih =>
    intro m φ χ l3 h1 h2 h3 h4 hA
    obtain ⟨m, rfl⟩ : ∃ j, m = j + 1 := ⟨m - 1, by omega⟩
    have hA0 := hA
    obtain ⟨a1, a2, a3, a4, a5, a6, a7⟩ := hA
    have hbb := cb_i a4
    unfold CB at hbb
    have e33 := a3 3 (by decide)
    rw [F_Outlook_bestMount_187_l2_s, F_RideLawsModel_aim_192_l31_s, show φ 6 3 = χ 194 3 from a1.1.1.2.2.2.1]
    by_cases c : χ 194 3 ≤ l3
    · rw [if_pos c, if_pos c]
      exact ⟨a1, a5, sav_18 a2, Or.inl ⟨rfl, rfl, a6, a7⟩⟩
    · rw [if_neg c, if_neg c]
      exact aim_i law most l3 hl hm hm2 h3 (by omega) (fun φ' χ' hA' => ih m φ' χ' (l3 + 1) (by omega) (by omega) (by omega) (by omega) hA') _ _ φ χ 0 (by decide) (by decide) (by decide) (by decide) hA0
noncomputable def AIM (φ χ : hf_F) : Prop := φ 0 13 = if χ 192 24 = 0 then -1 else χ 192 23
theorem aim_rel {φ χ ψ ξ : hf_F} {v w r s : Int} (hI : Inv χ) (h : SCR φ χ) (hA : AIM φ χ) (e1 : F_RideLaws_aim_0 φ v w = (r, ψ)) (e2 : F_RideLawsModel_aim_192 χ v w = (s, ξ)) : r = s ∧ SCR ψ ξ ∧ AIM ψ ξ ∧ C18 χ ξ := by
  have hb := cb_i hI
  have hr := scr_srb hb h
  have hbb := hb
  unfold CB at hbb
  have h00 : SCR φ (hf_up χ 192 0 0) ∧ AIM φ (hf_up χ 192 0 0) ∧ C18 χ (hf_up χ 192 0 0) := ⟨scr_0 hb h, hA, fun _ _ => rfl⟩
  unfold F_RideLaws_aim_0 at e1
  unfold F_RideLawsModel_aim_192 at e2
  have k4 : φ 6 4 = χ 194 4 := h.1.1.2.2.2.2
  rw [bnp_e (has_e4 φ v), k4] at e1
  rw [bnp_e (islaw_e _ v), show hf_up χ 192 0 0 194 4 = χ 194 4 from rfl] at e2
  by_cases c : 0 ≤ v ∧ v < χ 194 4
  · rw [if_pos c, if_neg (by decide)] at e1
    rw [if_pos (show 0 ≤ v ∧ v ≤ χ 194 4 - 1 from ⟨c.1, by omega⟩), if_neg (by decide), bnp_e (isin_e _ w _ _)] at e2
    by_cases c2 : 1 ≤ w ∧ w ≤ 99
    · rw [if_neg (show ¬ w < 1 by omega), if_pos c2.2] at e1
      rw [if_pos c2, if_pos (by decide), bnv_e rfl] at e2
      obtain ⟨s1, s2⟩ := tries_s χ
      have hI1 : Inv (F_RideLawsModel_tries_192 (hf_up χ 192 0 0)) := (K_F_RideLawsModel_tries_192 (inv_0 hI) rfl).1
      have s23 : F_RideLawsModel_tries_192 (hf_up χ 192 0 0) 192 23 = χ 192 23 := rfl
      have s24 : F_RideLawsModel_tries_192 (hf_up χ 192 0 0) 192 24 = χ 192 24 := rfl
      generalize F_RideLawsModel_tries_192 (hf_up χ 192 0 0) = χ1 at e2 s1 s2 hI1 s23 s24
      have hS1 : SCR φ χ1 := scr_m hb h ⟨fun k _ => s2 k, fun k _ => s1.2 197 k (by omega) (by omega) (by omega), fun k => s1.2 199 k (by omega) (by omega) (by omega), s1.2 192 22 (by omega) (by omega) (by omega)⟩
      have hx := aim_o v w ⟨c.1, by omega⟩ c2.1 c2.2 (χ0 := χ) (φ0 := φ) ((6 - 0 : Int).toNat + 1) ((6 - 0 : Int).toNat + 1) φ χ1 0 (by decide) (by decide) (by decide) (by decide) ⟨hS1, s1, fun k _ => s2 k, hI1, f43_r φ, s23, s24⟩
      rw [e2] at hx
      obtain ⟨z7, ψ7, g7⟩ : ∃ a b, F_Outlook_bestMount_187 φ v w = (a, b) := ⟨_, _, rfl⟩
      have g7' : F_Outlook_bestMount_187_l2 ((6 - 0 : Int).toNat + 1) φ v w 0 = (z7, ψ7) := g7
      rw [g7'] at hx
      rw [bnd_e g7] at e1
      obtain ⟨x1, x2, x18, x3⟩ := hx
      dsimp only at x1 x2 x18 x3
      unfold AIM at hA ⊢
      rcases x3 with ⟨y1, y2, y3, y4⟩ | ⟨y1, y2, y3, y4⟩
      · rw [if_neg (fun q => q y1)] at e1
        cases e1
        exact ⟨y2.symm, x1, by rw [x2 0 13 (by omega), y3, y4]; exact hA, x18⟩
      · rw [if_pos (show ¬ z7 = -1 by omega)] at e1
        cases e1
        refine ⟨y2.symm, ?_, ?_, x18⟩
        · have hcb : CB (ξ 194) := by
            have q := x1.1.1
            unfold CB
            have p := h.1.1
            have q0 : ψ7 6 0 = ξ 194 0 := q.1
            have q1 : ψ7 6 1 = ξ 194 1 := q.2.1
            have q2 : ψ7 6 2 = ξ 194 2 := q.2.2.1
            have q3 : ψ7 6 3 = ξ 194 3 := q.2.2.2.1
            have q4 : ψ7 6 4 = ξ 194 4 := q.2.2.2.2
            have p0 : φ 6 0 = χ 194 0 := p.1
            have p1 : φ 6 1 = χ 194 1 := p.2.1
            have p2 : φ 6 2 = χ 194 2 := p.2.2.1
            have p3 : φ 6 3 = χ 194 3 := p.2.2.2.1
            have p4 : φ 6 4 = χ 194 4 := p.2.2.2.2
            have w0 := x2 6 0 (by omega)
            have w1 := x2 6 1 (by omega)
            have w2 := x2 6 2 (by omega)
            have w3 := x2 6 3 (by omega)
            have w4 := x2 6 4 (by omega)
            omega
          exact scr_f hcb x1 (fun a k q => hf_up_ne (by omega)) rfl (fun _ => rfl) (fun _ _ => rfl) (fun _ _ => rfl)
        · rw [hf_up_eq, y4, if_neg (by decide), y3]
    · rw [if_neg c2, if_neg (by decide)] at e2
      cases e2
      by_cases c3 : w < 1
      · rw [if_pos c3] at e1
        cases e1
        exact ⟨rfl, h00⟩
      · rw [if_neg c3, if_neg (show ¬ w ≤ 99 by omega)] at e1
        cases e1
        exact ⟨rfl, h00⟩
  · rw [if_neg c, if_pos rfl] at e1
    rw [if_neg (show ¬ (0 ≤ v ∧ v ≤ χ 194 4 - 1) by omega), if_pos rfl] at e2
    cases e1
    cases e2
    exact ⟨rfl, h00⟩
