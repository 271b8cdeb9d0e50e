/-! ticks -/
theorem inv_0 {χ : hf_F} (hI : Inv χ) : Inv (hf_up χ 192 0 0) := iv_up (lo := 0) (u := 1) hI (by decide +kernel) (by omega) (by omega)
theorem turn_s {φ χ : hf_F} (hI : Inv χ) (h : SCR φ χ) (ht : χ 194 99 < 1000) : SCR (F_State_turn_17_5 φ) (F_RideLawsModel_tick_192 χ) ∧ FRC φ (F_State_turn_17_5 φ) ∧ FRM χ (F_RideLawsModel_tick_192 χ) ∧ F_RideLawsModel_tick_192 χ 194 99 = χ 194 99 + 1 ∧ Inv (F_RideLawsModel_tick_192 χ) := by
  have hb := cb_i hI
  obtain ⟨t1, t2, t3, t4, t5⟩ := turn_17 hI h.1 h.2.1
  have hm : ∀ a k : Nat, ¬ (a = 194 ∧ 99 ≤ k ∧ k < 180) → F_RideLawsModel_tick_192 χ a k = χ a k := fun a k q => by
    by_cases ha : a = 194
    · rw [ha]
      exact t2 k (by omega)
    · exact t3 a k ha
  have hT := h.2.2.2
  unfold TKB at hT
  refine ⟨scr_s hb h (fun a k q => t4 a k (by omega)) (fun a k q1 q2 => hm a k q1) (stg_o t1 ?_ (fun _ _ _ => rfl) (fun k q => (hm 194 k (by omega)).symm) (fun _ _ _ => rfl) ?_) ?_, fun a k q1 q2 q3 q4 => t4 a k (by omega), fun a k q1 q2 q3 => hm a k q1, t5, (K_F_RideLawsModel_tick_192 hI rfl).1⟩
  · unfold CB
    rw [hm 194 0 (by omega), hm 194 1 (by omega), hm 194 2 (by omega), hm 194 3 (by omega), hm 194 4 (by omega)]
    exact hb
  · intro i hi
    unfold CB at hb
    rw [hm 194 1 (by omega)] at hi
    rw [hm 194 (11 + i) (by omega)]
    exact scr_srb (cb_i hI) h i hi
  · exact tkb_s hb (scr_srb hb h) h.2.2.2 ht t5
theorem ticks_l (v g : Int) (hv : v ≤ 60) : ∀ (n k : Nat) (φ χ : hf_F) (l : Int), g - l < n → g - l < k → 0 ≤ l → l ≤ g → g ≤ v → Inv χ → SCR φ χ → χ 194 99 + (g - l) ≤ 1000 → (g = v ∨ χ 194 99 + (g - l) = 1000) →
    ∃ ψ ξ : hf_F, F_RideLaws_ticks_0_l48 n φ v g l = (g, ψ) ∧ F_RideLawsModel_goesOn_192_l2 k χ v l = (g, ξ) ∧ SCR ψ ξ ∧ FRC φ ψ ∧ FRM χ ξ := by
  intro n
  induction n with
  | zero => intro k φ χ l h1 h2 h3 h4; omega
  | succ n ih =>
    intro k φ χ l h1 h2 h3 h4 h5 hI h h6 h7
    obtain ⟨k, rfl⟩ : ∃ j, k = j + 1 := ⟨k - 1, by omega⟩
    have hT := h.2.2.2
    unfold TKB at hT
    rw [F_RideLaws_ticks_0_l48_s, F_RideLawsModel_goesOn_192_l2_s, show jm_n g = g from hi_n (by unfold hi; omega), show jm_n (χ 194 99) = χ 194 99 from hi_n (by unfold hi; omega)]
    by_cases c : g ≤ l
    · rw [if_pos c]
      have e : (if v ≤ l then (l, χ) else (if 1000 ≤ χ 194 99 then (l, χ) else (bnv (F_RideLawsModel_tick_192 χ) (fun ψ5 => (F_RideLawsModel_goesOn_192_l2 k) ψ5 v (l + 1))))) = (g, χ) := by
        by_cases c2 : v ≤ l
        · rw [if_pos c2, show l = g by omega]
        · rw [if_neg c2, if_pos (by omega), show l = g by omega]
      rw [e]
      exact ⟨φ, χ, rfl, rfl, h, frc_r φ, fun _ _ _ _ _ => rfl⟩
    · rw [if_neg c, if_neg (show ¬ v ≤ l by omega), if_neg (show ¬ 1000 ≤ χ 194 99 by omega), bnv_e rfl, bnv_e rfl]
      obtain ⟨t1, t2, t3, t4, t5⟩ := turn_s hI h (by omega)
      obtain ⟨ψ, ξ, i1, i2, i3, i4, i5⟩ := ih k (F_State_turn_17_5 φ) (F_RideLawsModel_tick_192 χ) (l + 1) (by omega) (by omega) (by omega) (by omega) h5 t5 t1 (by omega) (by omega)
      exact ⟨ψ, ξ, i1, i2, i3, frc_t t2 i4, frm_t t3 i5⟩
theorem ticks_rel {φ χ ψ ξ : hf_F} {v1 r s : Int} (hI : Inv χ) (h : SCR φ χ) (e1 : F_RideLaws_ticks_0 φ v1 = (r, ψ)) (e2 : F_RideLawsModel_ticks_192 χ v1 = (s, ξ)) : ACT φ χ ψ ξ r s := by
  have hb := cb_i hI
  have h0 := scr_0 hb h
  have hI0 : Inv (hf_up χ 192 0 0) := inv_0 hI
  have hT := h.2.2.2
  unfold TKB at hT
  unfold F_RideLaws_ticks_0 at e1
  unfold F_RideLawsModel_ticks_192 at e2
  rw [bnp_e (isin_e _ v1 _ _)] at e2
  by_cases c : 1 ≤ v1 ∧ v1 ≤ 60
  · have e99 : φ 17 0 = χ 194 99 := h.2.1.1.1.1
    have hl : F_State_ticksLeft_17 φ = 1000 - χ 194 99 := by
      unfold F_State_ticksLeft_17
      rw [e99, show jm_n (1000 - χ 194 99) = 1000 - χ 194 99 from hi_n (by unfold hi; omega), show jm_n 0 = 0 from hi_n (by unfold hi; omega)]
      by_cases c2 : 0 < 1000 - χ 194 99
      · rw [if_pos c2]
      · rw [if_neg c2]; omega
    rw [if_neg (show ¬ v1 < 1 by omega), if_pos c.2, bnp_e hl] at e1
    rw [if_pos c, if_pos (by decide), show jm_n (χ 194 99) = χ 194 99 from hi_n (by unfold hi; omega)] at e2
    rw [show jm_n (1000 - χ 194 99) = 1000 - χ 194 99 from hi_n (by unfold hi; omega), show jm_n v1 = v1 from hi_n (by unfold hi; omega)] at e1
    generalize hg : (if 1000 - χ 194 99 < v1 then 1000 - χ 194 99 else v1) = g at e1
    have hg1 : g ≤ v1 ∧ 0 ≤ g ∧ χ 194 99 + g ≤ 1000 ∧ (g = v1 ∨ χ 194 99 + g = 1000) := by
      rw [← hg]
      by_cases c2 : 1000 - χ 194 99 < v1
      · rw [if_pos c2]; omega
      · rw [if_neg c2]; omega
    rw [show jm_n g = g from hi_n (by unfold hi; omega)] at e1
    by_cases c3 : χ 194 99 = 1000
    · rw [if_pos (show g ≤ 0 by omega)] at e1
      rw [if_neg (fun q => q c3)] at e2
      have hz : g = 0 := by omega
      rw [hz, show (60 - 0 : Int).toNat + 1 = 60 + 1 from rfl, F_RideLaws_ticks_0_l48_s, show jm_n 0 = 0 from hi_n (by unfold hi; omega), if_pos (by omega)] at e1
      cases e1
      cases e2
      exact act_0 hb h rfl
    · rw [if_neg (show ¬ g ≤ 0 by omega), bnv_e rfl] at e1
      rw [if_pos c3, bnv_e rfl] at e2
      obtain ⟨k1, k2, k3, k4, k5⟩ := keep_s (χ := hf_up χ 192 0 0) hb h0
      have hIk := (K_F_RideLawsModel_keep_192 hI0 rfl).1
      obtain ⟨ψ2, ξ2, i1, i2, i3, i4, i5⟩ := ticks_l v1 g c.2 ((60 - 0 : Int).toNat + 1) ((8214 - 0 : Int).toNat + 1) (F_History_keep_108_17 φ) (F_RideLawsModel_keep_192 (hf_up χ 192 0 0)) 0 (by omega) (by omega) (by decide) (by omega) hg1.1 hIk k1 (by rw [k5]; show χ 194 99 + (g - 0) ≤ 1000; omega) (by rw [k5]; show g = v1 ∨ χ 194 99 + (g - 0) = 1000; omega)
      rw [i1] at e1
      have i2' : F_RideLawsModel_goesOn_192 (F_RideLawsModel_keep_192 (hf_up χ 192 0 0)) v1 = (g, ξ2) := i2
      rw [bnd_e i2'] at e2
      cases e1
      cases e2
      exact ⟨rfl, i3, frc_t k2 i4, frm_t (frm_t (frm_0 χ) k3) i5⟩
  · rw [if_neg c, if_neg (by decide)] at e2
    by_cases c2 : v1 < 1
    · rw [if_pos c2] at e1
      cases e1
      cases e2
      exact act_0 hb h rfl
    · rw [if_neg c2, if_neg (show ¬ v1 ≤ 60 by omega)] at e1
      cases e1
      cases e2
      exact act_0 hb h rfl
