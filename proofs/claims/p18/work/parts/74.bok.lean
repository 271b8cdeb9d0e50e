/-! a BOOK, all of it -/
noncomputable def KPO (χ : hf_F) : hf_F := hf_mp (F_RideLawsModel_keep_192 χ) 199 ((81 * (F_RideLawsModel_keep_192 χ 192 22 - 1)).toNat) 81 (fun j => F_RideLawsModel_keep_192 χ 200 (0 + j))
theorem kp_o {χ : hf_F} (h : 0 ≤ χ 192 22 ∧ χ 192 22 ≤ 8) : (∀ k, KPO χ 199 k = F_RideLawsModel_keep_192 (F_RideLawsModel_back_192 χ) 199 k) ∧ KPO χ 192 22 = F_RideLawsModel_keep_192 (F_RideLawsModel_back_192 χ) 192 22 ∧ ∀ a k, ¬ a = 199 → ¬ (a = 192 ∧ k = 22) → KPO χ a k = χ a k := by
  have b22 : F_RideLawsModel_back_192 χ 192 22 = χ 192 22 := back_o χ 192 22 (by omega)
  have b199 : ∀ k, F_RideLawsModel_back_192 χ 199 k = χ 199 k := fun k => back_o χ 199 k (by omega)
  have b194 : ∀ j, j < 81 → F_RideLawsModel_back_192 χ 194 (99 + j) = χ 200 j := fun j hj => by rw [back_in χ (99 + j) (by omega) (by omega), show 99 + j - 99 = j by omega]
  unfold KPO F_RideLawsModel_keep_192
  rw [b22]
  generalize F_RideLawsModel_back_192 χ = ζ at b22 b199 b194 ⊢
  by_cases c : χ 192 22 = 8
  · rw [if_neg (fun q => q c), if_neg (fun q => q c)]
    have e1 : (81 * (hf_up (hf_mp (hf_up (hf_mp χ 199 0 567 (fun j => χ 199 (81 + j))) 192 22 7) 199 ((81 * hf_up (hf_mp χ 199 0 567 (fun j => χ 199 (81 + j))) 192 22 7 192 22).toNat) 81 (fun j => hf_up (hf_mp χ 199 0 567 (fun j => χ 199 (81 + j))) 192 22 7 194 (99 + j))) 192 22 8 192 22 - 1)).toNat = 567 := by rw [hf_up_eq]; rfl
    have e2 : (81 * hf_up (hf_mp χ 199 0 567 (fun j => χ 199 (81 + j))) 192 22 7 192 22).toNat = 567 := by rw [hf_up_eq]; rfl
    have e3 : (81 * hf_up (hf_mp ζ 199 0 567 (fun j => ζ 199 (81 + j))) 192 22 7 192 22).toNat = 567 := by rw [hf_up_eq]; rfl
    rw [e1, e2, e3]
    refine ⟨fun k => ?_, ?_, fun a k h1 h2 => ?_⟩
    · by_cases k1 : 567 ≤ k ∧ k < 648
      · rw [hf_mp_in k1.1 (by omega), up_a (by decide), hf_mp_ne (fun q => absurd q.1 (by decide)), up_a (by decide), hf_mp_ne (fun q => absurd q.1 (by decide)), show 0 + (k - 567) = k - 567 by omega, up_a (by decide), hf_mp_in k1.1 (by omega), up_a (by decide), hf_mp_ne (fun q => absurd q.1 (by decide)), b194 _ (by omega)]
      · by_cases k2 : k < 567
        · rw [hf_mp_ne (fun q => k1 (by omega)), up_a (by decide), hf_mp_ne (fun q => k1 (by omega)), up_a (by decide), hf_mp_in (by omega) (by omega), up_a (by decide), hf_mp_ne (fun q => k1 (by omega)), up_a (by decide), hf_mp_in (by omega) (by omega), b199]
        · rw [hf_mp_ne (fun q => k1 (by omega)), up_a (by decide), hf_mp_ne (fun q => k1 (by omega)), up_a (by decide), hf_mp_ne (fun q => k2 (by omega)), up_a (by decide), hf_mp_ne (fun q => k1 (by omega)), up_a (by decide), hf_mp_ne (fun q => k2 (by omega)), b199]
    · rw [hf_mp_ne (fun q => absurd q.1 (by decide)), hf_up_eq, hf_up_eq]
    · rw [hf_mp_ne (fun q => h1 q.1), hf_up_ne h2, hf_mp_ne (fun q => h1 q.1), hf_up_ne h2, hf_mp_ne (fun q => h1 q.1)]
  · rw [if_pos c, if_pos c]
    have e1 : (81 * (hf_up (hf_mp χ 199 ((81 * χ 192 22).toNat) 81 (fun j => χ 194 (99 + j))) 192 22 (χ 192 22 + 1) 192 22 - 1)).toNat = (81 * χ 192 22).toNat := by rw [hf_up_eq]; omega
    rw [e1]
    refine ⟨fun k => ?_, ?_, fun a k h1 h2 => ?_⟩
    · by_cases k1 : (81 * χ 192 22).toNat ≤ k ∧ k < (81 * χ 192 22).toNat + 81
      · rw [hf_mp_in k1.1 k1.2, up_a (by decide), hf_mp_ne (fun q => absurd q.1 (by decide)), up_a (by decide), hf_mp_in k1.1 k1.2, b194 _ (by omega), show 0 + (k - (81 * χ 192 22).toNat) = k - (81 * χ 192 22).toNat by omega]
      · rw [hf_mp_ne (fun q => k1 q.2), up_a (by decide), hf_mp_ne (fun q => k1 q.2), up_a (by decide), hf_mp_ne (fun q => k1 q.2), b199]
    · rw [hf_mp_ne (fun q => absurd q.1 (by decide)), hf_up_eq, hf_up_eq]
    · rw [hf_mp_ne (fun q => h1 q.1), hf_up_ne h2, hf_mp_ne (fun q => h1 q.1)]
noncomputable def TDE (φ : hf_F) (z : Int) : hf_F := hf_up (hf_up (hf_up (hf_up φ 191 0 z) 191 1 (φ 183 6)) 191 2 (φ 43 0)) 191 3 (φ 43 3)
theorem tde_o {φ : hf_F} {z : Int} {a k : Nat} (h : ¬ a = 191) : TDE φ z a k = φ a k := by
  unfold TDE
  rw [up_a h, up_a h, up_a h, up_a h]
noncomputable def CHE (χ : hf_F) : hf_F := hf_up (hf_up (hf_up χ 202 2 (χ 194 99)) 202 3 (χ 194 102)) 192 32 1
theorem che_o {χ : hf_F} {a k : Nat} (h : ¬ a = 202) (h2 : ¬ (a = 192 ∧ k = 32)) : CHE χ a k = χ a k := by
  unfold CHE
  rw [hf_up_ne h2, up_a h, up_a h]
/-- what is known when the lines are lived -/
noncomputable def BKL (φ χ ψ6 ξ6 : hf_F) (w l2 : Int) : Prop := SCR (TDE ψ6 w) χ ∧ LIV ψ6 ξ6 ∧ (0 ≤ w ∧ w ≤ 50) ∧ ψ6 183 6 = ξ6 202 1 ∧ (0 ≤ ξ6 202 1 ∧ ξ6 202 1 ≤ 40) ∧ ((l2 = -1 ∧ w = 0) ∨ (l2 = ξ6 202 1 ∧ 1 ≤ w)) ∧ (∀ k, k < 81 → ξ6 200 k = χ 194 (99 + k)) ∧ (∀ k, k < 99 → ξ6 194 k = χ 194 k) ∧ (∀ k, ξ6 197 k = χ 197 k) ∧ (∀ k, ξ6 199 k = χ 199 k) ∧ ξ6 192 22 = χ 192 22 ∧ (ξ6 202 1 = 0 → ∀ k, ξ6 194 k = χ 194 k)
theorem bok_0 {φ χ ψ6 ξ6 : hf_F} {w l2 : Int} (hb : CB (χ 194)) (h : BKL φ χ ψ6 ξ6 w l2) : SCR (TDE ψ6 w) (F_RideLawsModel_back_192 (CHE ξ6)) := by
  obtain ⟨a1, a2, a3, a4, a5, a6, a7, a8, a9, a10, a11, a12⟩ := h
  refine scr_m hb a1 ⟨fun k hk => ?_, fun k _ => ?_, fun k => ?_, ?_⟩
  · by_cases c : 99 ≤ k
    · rw [back_in _ k c hk, che_o (by decide) (by omega), a7 _ (by omega), show 99 + (k - 99) = k by omega]
    · rw [back_o _ 194 k (by omega), che_o (by decide) (by omega), a8 k (by omega)]
  · rw [back_o _ 197 k (by omega), che_o (by decide) (by omega), a9]
  · rw [back_o _ 199 k (by omega), che_o (by decide) (by omega), a10]
  · rw [back_o _ 192 22 (by omega), che_o (by decide) (by omega), a11]
theorem bok_z {φ χ ψ6 ξ6 : hf_F} {w l2 : Int} (hb : CB (χ 194)) (h : BKL φ χ ψ6 ξ6 w l2) (hz : ξ6 202 1 = 0) : SCR (TDE ψ6 w) (CHE ξ6) := by
  obtain ⟨a1, a2, a3, a4, a5, a6, a7, a8, a9, a10, a11, a12⟩ := h
  refine scr_m hb a1 ⟨fun k hk => ?_, fun k _ => ?_, fun k => ?_, ?_⟩
  · rw [che_o (by decide) (by omega), a12 hz k]
  · rw [che_o (by decide) (by omega), a9]
  · rw [che_o (by decide) (by omega), a10]
  · rw [che_o (by decide) (by omega), a11]
theorem bok_1 {φ χ ψ6 ξ6 : hf_F} {w l2 : Int} (hb : CB (χ 194)) (h : BKL φ χ ψ6 ξ6 w l2) : SCR (F_State_copyFrom_17_43 (F_History_keep_108_17 (TDE ψ6 w))) (KPO (CHE ξ6)) := by
  have h0 := bok_0 hb h
  obtain ⟨a1, a2, a3, a4, a5, a6, a7, a8, a9, a10, a11, a12⟩ := h
  have hr := scr_srb hb a1
  have hcb : CB (F_RideLawsModel_back_192 (CHE ξ6) 194) := by
    have e : ∀ k, k < 99 → F_RideLawsModel_back_192 (CHE ξ6) 194 k = χ 194 k := fun k hk => by rw [back_o _ 194 k (by omega), che_o (by decide) (by omega), a8 k hk]
    unfold CB
    rw [e 0 (by decide), e 1 (by decide), e 2 (by decide), e 3 (by decide), e 4 (by decide)]
    exact hb
  have h22 : 0 ≤ CHE ξ6 192 22 ∧ CHE ξ6 192 22 ≤ 8 := by
    rw [che_o (by decide) (by omega), a11]; exact a1.2.2.1.2.1
  obtain ⟨k1, k2, k3⟩ := kp_o h22
  obtain ⟨s1, s2, s3, s4, s5⟩ := keep_s hcb h0
  have hc := cpy_17_43 (F_History_keep_108_17 (TDE ψ6 w))
  have ho : ∀ a k, ¬ (17 ≤ a ∧ a ≤ 25) → F_State_copyFrom_17_43 (F_History_keep_108_17 (TDE ψ6 w)) a k = F_History_keep_108_17 (TDE ψ6 w) a k := fun a k q => hc.2.2.2.2.2.2.2.2.2 a k (by omega)
  have e94 : ∀ k, KPO (CHE ξ6) 194 k = ξ6 194 k := fun k => by rw [k3 194 k (by decide) (by omega), che_o (by decide) (by omega)]
  have e99 : ∀ k, k < 99 → KPO (CHE ξ6) 194 k = χ 194 k := fun k hk => by rw [e94, a8 k hk]
  have f99 : ∀ k, k < 99 → KPO (CHE ξ6) 194 k = F_RideLawsModel_keep_192 (F_RideLawsModel_back_192 (CHE ξ6)) 194 k := fun k hk => by rw [e99 k hk, s5, back_o _ 194 k (by omega), che_o (by decide) (by omega), a8 k hk]
  have hb6 : CB (ξ6 194) := by
    unfold CB
    rw [a8 0 (by decide), a8 1 (by decide), a8 2 (by decide), a8 3 (by decide), a8 4 (by decide)]
    exact hb
  have hr6 : SRB (ξ6 194) := srb_s hb6 a2.1.2.2.2.1
  have hbk : CB (F_RideLawsModel_keep_192 (F_RideLawsModel_back_192 (CHE ξ6)) 194) := by rw [show F_RideLawsModel_keep_192 (F_RideLawsModel_back_192 (CHE ξ6)) 194 = F_RideLawsModel_back_192 (CHE ξ6) 194 from funext s5]; exact hcb
  refine ⟨plg_f a1.1 hb (fun a k q => ?_) e99 (fun k _ => ?_), ?_, his_f hbk (scr_srb hbk s1) s1.2.2.1 (fun a k q => ho a k (by omega)) k2 k1 f99, ?_⟩
  · rw [ho a k (by omega), s4 a k (by omega)]
  · rw [k3 197 k (by decide) (by omega), che_o (by decide) (by omega), a9]
  · refine stg_o (stg_c (by unfold CB at hb6; omega) hc (stg_o a2.2.1 hb6 (fun a k q => ?_) (fun _ _ => rfl) (fun _ _ _ => rfl) hr6)) hb6 (fun _ _ _ => rfl) (fun k _ => e94 k) (fun k _ _ => e94 k) hr6
    rw [s4 a k (by omega), tde_o (by omega)]
  · exact tkb_g a2.2.2 (fun k q => e94 k)
