/-! drawn -/
noncomputable def DRW (φ χ : hf_F) : Prop := φ 188 0 = χ 192 29
/-- a drawn TICK's act, of the class -/
noncomputable def TDC (φ : hf_F) : hf_F :=
  if (F_Draws_below_188 φ 12).1 = 0 ∧ 0 < φ 6 3 ∧ 0 < φ 6 1 then
    F_State_mountOrAlight_17 (F_Draws_below_188 (F_Draws_below_188 (F_Draws_below_188 φ 12).2 (φ 6 3)).2 (φ 6 1)).2 (F_Draws_below_188 (F_Draws_below_188 φ 12).2 (φ 6 3)).1 (F_Draws_below_188 (F_Draws_below_188 (F_Draws_below_188 φ 12).2 (φ 6 3)).2 (φ 6 1)).1
  else if (F_Draws_below_188 φ 12).1 = 1 ∧ 0 < φ 6 3 ∧ 0 < φ 6 2 then
    (if F_State_whyNotLearn_17 (F_Draws_below_188 (F_Draws_below_188 (F_Draws_below_188 φ 12).2 (φ 6 3)).2 (φ 6 2)).2 (F_Draws_below_188 (F_Draws_below_188 φ 12).2 (φ 6 3)).1 = 0 then
      F_State_addWord_17 (F_Draws_below_188 (F_Draws_below_188 (F_Draws_below_188 φ 12).2 (φ 6 3)).2 (φ 6 2)).2 (F_Draws_below_188 (F_Draws_below_188 φ 12).2 (φ 6 3)).1 (F_Draws_below_188 (F_Draws_below_188 (F_Draws_below_188 φ 12).2 (φ 6 3)).2 (φ 6 2)).1
    else (F_Draws_below_188 (F_Draws_below_188 (F_Draws_below_188 φ 12).2 (φ 6 3)).2 (φ 6 2)).2)
  else if (F_Draws_below_188 φ 12).1 = 2 ∧ F_State_whyNotWhistle_17 (F_Draws_below_188 φ 12).2 = 0 then F_State_blow_17 (F_Draws_below_188 φ 12).2
  else (F_Draws_below_188 φ 12).2
theorem td_e (φ : hf_F) : F_State_turnDrawn_17_5_188 φ = F_State_turn_17_5 (TDC φ) := by
  unfold F_State_turnDrawn_17_5_188 TDC
  unfold bnd bnp bnv
  generalize F_Draws_below_188 φ 12 = p
  obtain ⟨z, ψ⟩ := p
  dsimp only
  by_cases c0 : z = 0
  · subst c0
    by_cases c3 : φ 6 3 ≤ 0
    · simp [c3, show ¬ 0 < φ 6 3 by omega]
    · by_cases c1 : φ 6 1 ≤ 0
      · simp [c3, c1, show ¬ 0 < φ 6 1 by omega]
      · simp [c3, c1, show 0 < φ 6 3 by omega, show 0 < φ 6 1 by omega]
  · by_cases c1 : z = 1
    · subst c1
      by_cases c3 : φ 6 3 ≤ 0
      · simp [c3, show ¬ 0 < φ 6 3 by omega]
      · by_cases c2 : φ 6 2 ≤ 0
        · simp [c3, c2, show ¬ 0 < φ 6 2 by omega]
        · simp [c3, c2, show 0 < φ 6 3 by omega, show 0 < φ 6 2 by omega]
          split <;> rfl
    · by_cases c2 : z = 2
      · subst c2
        simp
        split <;> rfl
      · simp [c0, c1, c2]
noncomputable def MOA (χ : hf_F) (r s : Int) : hf_F := if χ 194 (112 + r).toNat ≤ 0 then (if F_RideLawsModel_whyMount_192 χ r s = 0 then hf_up χ 194 (112 + r).toNat (s + 1) else χ) else hf_up χ 194 (112 + r).toNat 0
noncomputable def DTM (χ : hf_F) : hf_F :=
  if (F_RideLawsModel_draw_192 χ 12).1 = 0 ∧ 0 < χ 194 3 ∧ 0 < χ 194 1 then
    MOA (F_RideLawsModel_draw_192 (F_RideLawsModel_draw_192 (F_RideLawsModel_draw_192 χ 12).2 (χ 194 3)).2 (χ 194 1)).2 (F_RideLawsModel_draw_192 (F_RideLawsModel_draw_192 χ 12).2 (χ 194 3)).1 (F_RideLawsModel_draw_192 (F_RideLawsModel_draw_192 (F_RideLawsModel_draw_192 χ 12).2 (χ 194 3)).2 (χ 194 1)).1
  else if (F_RideLawsModel_draw_192 χ 12).1 = 1 ∧ 0 < χ 194 3 ∧ 0 < χ 194 2 then
    (if F_RideLawsModel_whyLearn_192 (F_RideLawsModel_draw_192 (F_RideLawsModel_draw_192 (F_RideLawsModel_draw_192 χ 12).2 (χ 194 3)).2 (χ 194 2)).2 (F_RideLawsModel_draw_192 (F_RideLawsModel_draw_192 χ 12).2 (χ 194 3)).1 = 0 then
      F_RideLawsModel_learns_192 (F_RideLawsModel_draw_192 (F_RideLawsModel_draw_192 (F_RideLawsModel_draw_192 χ 12).2 (χ 194 3)).2 (χ 194 2)).2 (F_RideLawsModel_draw_192 (F_RideLawsModel_draw_192 χ 12).2 (χ 194 3)).1 (F_RideLawsModel_draw_192 (F_RideLawsModel_draw_192 (F_RideLawsModel_draw_192 χ 12).2 (χ 194 3)).2 (χ 194 2)).1
    else (F_RideLawsModel_draw_192 (F_RideLawsModel_draw_192 (F_RideLawsModel_draw_192 χ 12).2 (χ 194 3)).2 (χ 194 2)).2)
  else if (F_RideLawsModel_draw_192 χ 12).1 = 2 ∧ F_RideLawsModel_whyWhistle_192 (F_RideLawsModel_draw_192 χ 12).2 = 0 then F_RideLawsModel_blows_192 (F_RideLawsModel_draw_192 χ 12).2
  else (F_RideLawsModel_draw_192 χ 12).2
theorem draw_k (χ : hf_F) (v : Int) (k : Nat) : (F_RideLawsModel_draw_192 χ v).2 194 k = χ 194 k := rfl
theorem dt_e (χ : hf_F) : F_RideLawsModel_drawTick_192 χ = DTM χ := by
  unfold F_RideLawsModel_drawTick_192 DTM
  unfold bnd bnp bnv
  have hk : ∀ k : Nat, (F_RideLawsModel_draw_192 χ 12).2 194 k = χ 194 k := fun k => rfl
  generalize F_RideLawsModel_draw_192 χ 12 = p at hk ⊢
  obtain ⟨z, ψ⟩ := p
  dsimp only at hk ⊢
  simp only [draw_k, hk]
  by_cases c0 : z = 0
  · subst c0
    by_cases c3 : χ 194 3 ≤ 0
    · simp [c3, show ¬ 0 < χ 194 3 by omega]
    · by_cases c1 : χ 194 1 ≤ 0
      · simp [c3, c1, show ¬ 0 < χ 194 1 by omega]
      · simp [c3, c1, show 0 < χ 194 3 by omega, show 0 < χ 194 1 by omega, MOA, draw_k, hk]
  · by_cases c1 : z = 1
    · subst c1
      by_cases c3 : χ 194 3 ≤ 0
      · simp [c3, show ¬ 0 < χ 194 3 by omega]
      · by_cases c2 : χ 194 2 ≤ 0
        · simp [c3, c2, show ¬ 0 < χ 194 2 by omega]
        · simp [c3, c2, show 0 < χ 194 3 by omega, show 0 < χ 194 2 by omega]
    · by_cases c2 : z = 2
      · subst c2
        simp
      · simp [c0, c1, c2]
noncomputable def FRD (φ ψ : hf_F) : Prop := ∀ a k : Nat, ¬ (17 ≤ a ∧ a ≤ 25) → ¬ (a = 188 ∧ k = 0) → ψ a k = φ a k
noncomputable def FDM (χ ξ : hf_F) : Prop := ∀ a k : Nat, ¬ (a = 194 ∧ 99 ≤ k ∧ k < 180) → ¬ (a = 192 ∧ k = 29) → ξ a k = χ a k
noncomputable def DST (φ χ ψ ξ : hf_F) : Prop := SCR ψ ξ ∧ DRW ψ ξ ∧ FRD φ ψ ∧ FDM χ ξ ∧ ξ 194 99 = χ 194 99
theorem below_r {φ χ : hf_F} {v : Int} (hb : CB (χ 194)) (h : SCR φ χ) (hd : DRW φ χ) (hv : 0 < v) (w : Int) (hw : v = w) : (F_Draws_below_188 φ v).1 = (F_RideLawsModel_draw_192 χ w).1 ∧ (0 ≤ (F_RideLawsModel_draw_192 χ w).1 ∧ (F_RideLawsModel_draw_192 χ w).1 < w) ∧ DST φ χ (F_Draws_below_188 φ v).2 (F_RideLawsModel_draw_192 χ w).2 ∧ ∀ k, (F_RideLawsModel_draw_192 χ w).2 194 k = χ 194 k := by
  subst hw
  unfold DRW at hd
  have e1 : F_Draws_below_188 φ v = ((hb_ushr (χ 192 29 * 1103515245 + 12345) 8).tmod v, hf_up φ 188 0 (χ 192 29 * 1103515245 + 12345)) := by
    unfold F_Draws_below_188
    rw [if_neg (show ¬ v ≤ 0 by omega), hd]
  have e2 : F_RideLawsModel_draw_192 χ v = ((hb_ushr (χ 192 29 * 1103515245 + 12345) 8).tmod v, hf_up χ 192 29 (χ 192 29 * 1103515245 + 12345)) := rfl
  rw [e1, e2]
  refine ⟨rfl, ⟨Int.tmod_nonneg _ (hr_ushr8 _).1, Int.tmod_lt_of_pos _ hv⟩, ⟨scr_f hb h (fun a k q => hf_up_ne (by omega)) rfl (fun _ => rfl) (fun _ _ => rfl) (fun _ _ => rfl), rfl, fun a k q1 q2 => hf_up_ne q2, fun a k q1 q2 => hf_up_ne q2, rfl⟩, fun k => rfl⟩
theorem dst_t {φ χ φ1 χ1 ψ ξ : hf_F} (h : DST φ χ φ1 χ1) (h2 : DST φ1 χ1 ψ ξ) : DST φ χ ψ ξ := ⟨h2.1, h2.2.1, fun a k q1 q2 => (h2.2.2.1 a k q1 q2).trans (h.2.2.1 a k q1 q2), fun a k q1 q2 => (h2.2.2.2.1 a k q1 q2).trans (h.2.2.2.1 a k q1 q2), h2.2.2.2.2.trans h.2.2.2.2⟩
theorem dst_r {φ χ : hf_F} (h : SCR φ χ) (hd : DRW φ χ) : DST φ χ φ χ := ⟨h, hd, fun _ _ _ _ => rfl, fun _ _ _ _ => rfl, rfl⟩
/-- a step of the state -/
theorem dst_s {φ χ ψ ξ : hf_F} (hb : CB (χ 194)) (h : SCR φ χ) (hd : DRW φ χ) (h1 : ∀ a k : Nat, ¬ (17 ≤ a ∧ a ≤ 25) → ψ a k = φ a k) (h2 : ∀ a k : Nat, ¬ (a = 194 ∧ 100 ≤ k ∧ k < 180) → ξ a k = χ a k) (h3 : ∀ k, ψ 18 k = φ 18 k) (h4 : ∀ k, 104 ≤ k → k < 112 → ξ 194 k = χ 194 k) (h5 : ∀ k, 166 ≤ k → k < 172 → ξ 194 k = χ 194 k) (hs : STN 17 ψ (χ 194) (ξ 194)) : DST φ χ ψ ξ := by
  have e99 : ξ 194 99 = χ 194 99 := h2 194 99 (by omega)
  refine ⟨scr_s hb h h1 (fun a k q1 q2 => h2 a k (by omega)) ⟨hs, atg_f hb h.2.1.2 h3 h4⟩ ?_, ?_, fun a k q1 q2 => h1 a k q1, fun a k q1 q2 => h2 a k (by omega), e99⟩
  · refine tkb_g h.2.2.2 (fun k q => ?_)
    rcases q with rfl | q
    · exact e99
    · exact h5 k q.1 q.2
  · unfold DRW
    rw [h1 188 0 (by omega), h2 192 29 (by omega)]; exact hd
theorem moa_r {φ χ : hf_F} {v1 v2 : Int} (hb : CB (χ 194)) (h : SCR φ χ) (hd : DRW φ χ) (c1 : 0 ≤ v1 ∧ v1 < χ 194 3) (c2 : 0 ≤ v2 ∧ v2 < χ 194 1) : DST φ χ (F_State_mountOrAlight_17 φ v1 v2) (MOA χ v1 v2) := by
  have hbb := hb
  unfold CB at hbb
  have hrl := h.2.1.1.2.2.1 v1.toNat (by omega)
  have ha : φ 20 v1.toNat = χ 194 (112 + v1.toNat) - 1 := hrl.1
  have hge : 0 ≤ χ 194 (112 + v1.toNat) := hrl.2.2.2.2.2.1.1
  unfold F_State_mountOrAlight_17 MOA
  rw [show (112 + v1).toNat = 112 + v1.toNat by omega]
  by_cases c : χ 194 (112 + v1.toNat) ≤ 0
  · have hw : F_State_whyNotAlight_17 φ v1 = 1 := by
      unfold F_State_whyNotAlight_17
      rw [if_neg (show ¬ ¬ φ 20 v1.toNat = -1 by omega)]
    have hm := whym_17 (by omega) h.2.1 v1.toNat v2.toNat (by omega) (by omega)
    rw [show ((v1.toNat : Nat) : Int) = v1 by omega, show ((v2.toNat : Nat) : Int) = v2 by omega] at hm
    rw [bnp_e hw, if_pos (by decide), bnp_e hm, if_pos c]
    by_cases c3 : F_RideLawsModel_whyMount_192 χ v1 v2 = 0
    · rw [if_neg (fun q => q c3), if_pos c3, bnv_e rfl]
      obtain ⟨z1, z2⟩ := whym_z (hm.trans c3)
      have hmm : ∀ k, hf_up χ 194 (112 + v1.toNat) (v2 + 1) 194 k = if k = 112 + v1.toNat then ((v2.toNat : Nat) : Int) + 1 else χ 194 k := fun k => by
        by_cases c4 : k = 112 + v1.toNat
        · rw [if_pos c4, c4, hf_up_eq]; omega
        · rw [if_neg c4, up_k c4]
      obtain ⟨s1, s2⟩ := sit_17 (c := χ 194) (r := v1.toNat) (s := v2.toNat) (by omega) (by omega) (by omega) (by omega) h.2.1.1 z1 z2 hmm
      rw [show ((v1.toNat : Nat) : Int) = v1 by omega, show ((v2.toNat : Nat) : Int) = v2 by omega] at s1 s2
      exact dst_s hb h hd (fun a k q => s2 a k (by omega)) (fun a k q => hf_up_ne (by omega)) (fun k => s2 18 k (by decide)) (fun k q1 q2 => up_k (by omega)) (fun k q1 q2 => up_k (by omega)) s1
    · rw [if_pos c3, if_neg c3]
      exact dst_r h hd
  · have hw : F_State_whyNotAlight_17 φ v1 = 0 := by
      unfold F_State_whyNotAlight_17
      rw [if_pos (show ¬ φ 20 v1.toNat = -1 by omega)]
    rw [bnp_e hw, if_neg (by decide), bnv_e rfl, if_neg c]
    have hmm : ∀ k, hf_up χ 194 (112 + v1.toNat) 0 194 k = if k = 112 + v1.toNat then 0 else χ 194 k := fun k => by
      by_cases c4 : k = 112 + v1.toNat
      · rw [if_pos c4, c4, hf_up_eq]
      · rw [if_neg c4, up_k c4]
    obtain ⟨s1, s2⟩ := off_17 (c := χ 194) (r := v1.toNat) (by omega) (by omega) h.2.1.1 (by omega) hmm
    rw [show ((v1.toNat : Nat) : Int) = v1 by omega] at s1 s2
    exact dst_s hb h hd (fun a k q => s2 a k (by omega)) (fun a k q => hf_up_ne (by omega)) (fun k => s2 18 k (by decide)) (fun k q1 q2 => up_k (by omega)) (fun k q1 q2 => up_k (by omega)) s1
theorem lrd_r {φ χ : hf_F} {v1 v2 : Int} (hb : CB (χ 194)) (h : SCR φ χ) (hd : DRW φ χ) (c1 : 0 ≤ v1 ∧ v1 < χ 194 3) (c2 : 0 ≤ v2 ∧ v2 < χ 194 2) : DST φ χ (if F_State_whyNotLearn_17 φ v1 = 0 then F_State_addWord_17 φ v1 v2 else φ) (if F_RideLawsModel_whyLearn_192 χ v1 = 0 then F_RideLawsModel_learns_192 χ v1 v2 else χ) := by
  have hbb := hb
  unfold CB at hbb
  have hrl := h.2.1.1.2.2.1 v1.toNat (by omega)
  have ha : φ 21 v1.toNat = χ 194 (118 + v1.toNat) := hrl.2.1
  have hr6 : 0 ≤ χ 194 (118 + v1.toNat) ∧ χ 194 (118 + v1.toNat) ≤ 6 := hrl.2.2.2.2.2.2.1
  have e118 : (118 + v1).toNat = 118 + v1.toNat := by omega
  unfold F_State_whyNotLearn_17 F_RideLawsModel_whyLearn_192
  rw [e118]
  by_cases c3 : χ 194 (118 + v1.toNat) = 6
  · rw [if_neg (show ¬ φ 21 v1.toNat < 6 by omega), if_neg (show ¬ (1 : Int) = 0 by decide), if_neg (show ¬ ¬ χ 194 (118 + v1.toNat) = 6 from fun q => q c3), if_neg (show ¬ (1 : Int) = 0 by decide)]
    exact dst_r h hd
  · rw [if_pos (show φ 21 v1.toNat < 6 by omega), if_pos (show (0 : Int) = 0 from rfl), if_pos (show ¬ χ 194 (118 + v1.toNat) = 6 from c3), if_pos (show (0 : Int) = 0 from rfl)]
    obtain ⟨b1, b2⟩ := learns_f (χ := χ) (r := v1.toNat) (w := v2) (by omega) (by omega)
    rw [show ((v1.toNat : Nat) : Int) = v1 by omega] at b1 b2
    have hm : ∀ k, F_RideLawsModel_learns_192 χ v1 v2 194 k = if k = 118 + v1.toNat then χ 194 (118 + v1.toNat) + 1 else if k = 124 + 6 * v1.toNat + (χ 194 (118 + v1.toNat)).toNat then ((v2.toNat : Nat) : Int) else χ 194 k := fun k => by
      rw [b1, show ((v2.toNat : Nat) : Int) = v2 by omega]
    obtain ⟨s1, s2⟩ := lrn_17 (c := χ 194) (r := v1.toNat) (w := v2.toNat) (by omega) (by omega) (by omega) h.2.1.1 (by omega) hm
    rw [show ((v1.toNat : Nat) : Int) = v1 by omega, show ((v2.toNat : Nat) : Int) = v2 by omega] at s1 s2
    have hne : ∀ k, ¬ (118 ≤ k ∧ k < 160) → F_RideLawsModel_learns_192 χ v1 v2 194 k = χ 194 k := fun k q => by
      rw [b1, if_neg (show ¬ k = 118 + v1.toNat by omega), if_neg (show ¬ k = 124 + 6 * v1.toNat + (χ 194 (118 + v1.toNat)).toNat by omega)]
    refine dst_s hb h hd (fun a k q => s2 a k (by omega)) (fun a k q => ?_) (fun k => s2 18 k (by decide)) (fun k q1 q2 => hne k (by omega)) (fun k q1 q2 => hne k (by omega)) s1
    by_cases ha : a = 194
    · rw [ha] at q ⊢
      exact hne k (by omega)
    · exact b2 a k ha
theorem blw_r {φ χ : hf_F} (hb : CB (χ 194)) (h : SCR φ χ) (hd : DRW φ χ) : DST φ χ (F_State_blow_17 φ) (F_RideLawsModel_blows_192 χ) := by
  have hbb := hb
  unfold CB at hbb
  obtain ⟨b1, b2⟩ := blows_f χ
  obtain ⟨w1, w2⟩ := blw_17 (by omega) h.2.1.1 b1
  refine dst_s hb h hd (fun a k q => w2 a k (by omega)) (fun a k q => ?_) (fun k => w2 18 k (by decide)) (fun k q1 q2 => ?_) (fun k q1 q2 => ?_) w1
  · by_cases ha : a = 194
    · rw [ha] at q ⊢
      rw [b1, if_neg (by omega), if_neg (by omega), if_neg (by omega)]
    · exact b2 a k ha
  · rw [b1, if_neg (by omega), if_neg (by omega), if_neg (by omega)]
  · rw [b1, if_neg (by omega), if_neg (by omega), if_neg (by omega)]
theorem dtick_r {φ χ : hf_F} (hb : CB (χ 194)) (h : SCR φ χ) (hd : DRW φ χ) : DST φ χ (TDC φ) (DTM χ) := by
  have hcb : ∀ ζ : hf_F, (∀ k, ζ 194 k = χ 194 k) → CB (ζ 194) := fun ζ q => by rw [show ζ 194 = χ 194 from funext q]; exact hb
  have k1 : φ 6 1 = χ 194 1 := h.1.1.2.1
  have k2 : φ 6 2 = χ 194 2 := h.1.1.2.2.1
  have k3 : φ 6 3 = χ 194 3 := h.1.1.2.2.2.1
  unfold TDC DTM
  obtain ⟨a1, a2, a3, a4⟩ := below_r hb h hd (show (0 : Int) < 12 by decide) 12 rfl
  rw [a1, k1, k2, k3]
  have hw := whyw_17 a3.1.2.1
  generalize F_Draws_below_188 φ 12 = p at a3 hw ⊢
  generalize F_RideLawsModel_draw_192 χ 12 = q at a2 a3 a4 hw ⊢
  by_cases c0 : q.1 = 0 ∧ 0 < χ 194 3 ∧ 0 < χ 194 1
  · rw [if_pos c0, if_pos c0]
    obtain ⟨b1, b2, b3, b4⟩ := below_r (hcb _ a4) a3.1 a3.2.1 c0.2.1 (χ 194 3) rfl
    generalize F_Draws_below_188 p.2 (χ 194 3) = p2 at b1 b3 ⊢
    generalize F_RideLawsModel_draw_192 q.2 (χ 194 3) = q2 at b1 b2 b3 b4 ⊢
    have b5 : ∀ k, q2.2 194 k = χ 194 k := fun k => (b4 k).trans (a4 k)
    obtain ⟨d1, d2, d3, d4⟩ := below_r (hcb _ b5) b3.1 b3.2.1 c0.2.2 (χ 194 1) rfl
    generalize F_Draws_below_188 p2.2 (χ 194 1) = p3 at d1 d3 ⊢
    generalize F_RideLawsModel_draw_192 q2.2 (χ 194 1) = q3 at d1 d2 d3 d4 ⊢
    have d5 : ∀ k, q3.2 194 k = χ 194 k := fun k => (d4 k).trans (b5 k)
    rw [b1, d1]
    exact dst_t a3 (dst_t b3 (dst_t d3 (moa_r (hcb _ d5) d3.1 d3.2.1 (by rw [d5]; exact b2) (by rw [d5]; exact d2))))
  · rw [if_neg c0, if_neg c0]
    by_cases c1 : q.1 = 1 ∧ 0 < χ 194 3 ∧ 0 < χ 194 2
    · rw [if_pos c1, if_pos c1]
      obtain ⟨b1, b2, b3, b4⟩ := below_r (hcb _ a4) a3.1 a3.2.1 c1.2.1 (χ 194 3) rfl
      generalize F_Draws_below_188 p.2 (χ 194 3) = p2 at b1 b3 ⊢
      generalize F_RideLawsModel_draw_192 q.2 (χ 194 3) = q2 at b1 b2 b3 b4 ⊢
      have b5 : ∀ k, q2.2 194 k = χ 194 k := fun k => (b4 k).trans (a4 k)
      obtain ⟨d1, d2, d3, d4⟩ := below_r (hcb _ b5) b3.1 b3.2.1 c1.2.2 (χ 194 2) rfl
      generalize F_Draws_below_188 p2.2 (χ 194 2) = p3 at d1 d3 ⊢
      generalize F_RideLawsModel_draw_192 q2.2 (χ 194 2) = q3 at d1 d2 d3 d4 ⊢
      have d5 : ∀ k, q3.2 194 k = χ 194 k := fun k => (d4 k).trans (b5 k)
      rw [b1, d1]
      exact dst_t a3 (dst_t b3 (dst_t d3 (lrd_r (hcb _ d5) d3.1 d3.2.1 (by rw [d5]; exact b2) (by rw [d5]; exact d2))))
    · rw [if_neg c1, if_neg c1, hw]
      by_cases c2 : q.1 = 2 ∧ F_RideLawsModel_whyWhistle_192 q.2 = 0
      · rw [if_pos c2, if_pos c2]
        exact dst_t a3 (blw_r (hcb _ a4) a3.1 a3.2.1)
      · rw [if_neg c2, if_neg c2]
        exact a3
theorem dstep_r {φ χ : hf_F} (hI : Inv χ) (h : SCR φ χ) (hd : DRW φ χ) (ht : χ 194 99 < 1000) : SCR (F_State_turnDrawn_17_5_188 φ) (F_RideLawsModel_tick_192 (F_RideLawsModel_drawTick_192 χ)) ∧ DRW (F_State_turnDrawn_17_5_188 φ) (F_RideLawsModel_tick_192 (F_RideLawsModel_drawTick_192 χ)) ∧
    (∀ a k : Nat, ¬ (17 ≤ a ∧ a ≤ 25) → ¬ (a = 108 ∧ k = 1) → ¬ a = 109 → ¬ (110 ≤ a ∧ a ≤ 181) → ¬ (a = 188 ∧ k = 0) → F_State_turnDrawn_17_5_188 φ a k = φ a k) ∧
    (∀ a k : Nat, ¬ (a = 194 ∧ 99 ≤ k ∧ k < 180) → ¬ a = 199 → ¬ (a = 192 ∧ (k = 0 ∨ k = 22)) → ¬ (a = 192 ∧ k = 29) → F_RideLawsModel_tick_192 (F_RideLawsModel_drawTick_192 χ) a k = χ a k) ∧ F_RideLawsModel_tick_192 (F_RideLawsModel_drawTick_192 χ) 194 99 = χ 194 99 + 1 ∧ Inv (F_RideLawsModel_tick_192 (F_RideLawsModel_drawTick_192 χ)) := by
  have hI2 := (K_F_RideLawsModel_drawTick_192 hI rfl).1
  obtain ⟨a1, a2, a3, a4, a5⟩ := dtick_r (cb_i hI) h hd
  rw [td_e]
  rw [dt_e] at hI2 ⊢
  obtain ⟨t1, t2, t3, t4, t5⟩ := turn_s hI2 a1 (by rw [a5]; exact ht)
  refine ⟨t1, ?_, fun a k q1 q2 q3 q4 q5 => (t2 a k q1 q2 q3 q4).trans (a3 a k q1 q5), fun a k q1 q2 q3 q4 => (t3 a k q1 q2 q3).trans (a4 a k q1 q4), by rw [t4, a5], t5⟩
  unfold DRW
  rw [t2 188 0 (by omega) (by omega) (by omega) (by omega), t3 192 29 (by omega) (by omega) (by omega)]
  exact a2
noncomputable def FRCD (φ ψ : hf_F) : Prop := ∀ a k : Nat, ¬ (17 ≤ a ∧ a ≤ 25) → ¬ (a = 108 ∧ k = 1) → ¬ a = 109 → ¬ (110 ≤ a ∧ a ≤ 181) → ¬ (a = 188 ∧ k = 0) → ψ a k = φ a k
noncomputable def FRMD (χ ξ : hf_F) : Prop := ∀ a k : Nat, ¬ (a = 194 ∧ 99 ≤ k ∧ k < 180) → ¬ a = 199 → ¬ (a = 192 ∧ (k = 0 ∨ k = 22)) → ¬ (a = 192 ∧ k = 29) → ξ a k = χ a k
theorem frcd_t {φ ψ ζ : hf_F} (h : FRCD φ ψ) (h2 : FRCD ψ ζ) : FRCD φ ζ := fun a k q1 q2 q3 q4 q5 => (h2 a k q1 q2 q3 q4 q5).trans (h a k q1 q2 q3 q4 q5)
theorem frmd_t {φ ψ ζ : hf_F} (h : FRMD φ ψ) (h2 : FRMD ψ ζ) : FRMD φ ζ := fun a k q1 q2 q3 q4 => (h2 a k q1 q2 q3 q4).trans (h a k q1 q2 q3 q4)
theorem K_seed {χ : hf_F} (hI : Inv χ) (w : Int) : Inv (hf_up χ 192 29 w) := iv_upn hI (by decide) (by unfold nfr; decide) (by decide +kernel)
theorem drawn_l (v w g : Int) (hv : v ≤ 60) : ∀ (n k : Nat) (φ χ : hf_F) (l : Int), g - l < n → g - l < k → 0 ≤ l → l ≤ g → g ≤ v → Inv χ → SCR φ χ → DRW φ χ → χ 194 99 + (g - l) ≤ 1000 → (g = v ∨ χ 194 99 + (g - l) = 1000) →
    ∃ ψ ξ : hf_F, F_RideLaws_drawn_0_l57 n φ v w g l = (g, ψ) ∧ F_RideLawsModel_draws_192_l7 k χ v w l = (g, ξ) ∧ SCR ψ ξ ∧ FRCD φ ψ ∧ FRMD χ ξ := by
  intro n
  induction n with
  | zero => intro k φ χ l h1 h2 h3 h4; omega
  | succ n ih =>
    intro k φ χ l h1 h2 h3 h4 h5 hI h hd h6 h7
    obtain ⟨k, rfl⟩ : ∃ j, k = j + 1 := ⟨k - 1, by omega⟩
    have hT := h.2.2.2
    unfold TKB at hT
    rw [F_RideLaws_drawn_0_l57_s, F_RideLawsModel_draws_192_l7_s, show jm_n g = g from hi_n (by unfold hi; omega), show jm_n (χ 194 99) = χ 194 99 from hi_n (by unfold hi; omega)]
    by_cases c : g ≤ l
    · rw [if_pos c]
      by_cases c2 : v ≤ l
      · rw [if_pos c2, show l = g by omega]
        exact ⟨φ, χ, rfl, rfl, h, fun _ _ _ _ _ _ _ => rfl, fun _ _ _ _ _ _ => rfl⟩
      · rw [if_neg c2, if_pos (show 1000 ≤ χ 194 99 by omega), show l = g by omega]
        exact ⟨φ, χ, rfl, rfl, h, fun _ _ _ _ _ _ _ => rfl, fun _ _ _ _ _ _ => rfl⟩
    · rw [if_neg c, if_neg (show ¬ v ≤ l by omega), if_neg (show ¬ 1000 ≤ χ 194 99 by omega), bnv_e rfl, bnv_e rfl, bnv_e rfl]
      obtain ⟨t1, t2, t3, t4, t5, t6⟩ := dstep_r hI h hd (by omega)
      obtain ⟨ψ, ξ, i1, i2, i3, i4, i5⟩ := ih k (F_State_turnDrawn_17_5_188 φ) (F_RideLawsModel_tick_192 (F_RideLawsModel_drawTick_192 χ)) (l + 1) (by omega) (by omega) (by omega) (by omega) h5 t6 t1 t2 (by omega) (by omega)
      exact ⟨ψ, ξ, i1, i2, i3, frcd_t t3 i4, frmd_t t4 i5⟩
noncomputable def ACTD (φ χ ψ ξ : hf_F) (r s : Int) : Prop := r = s ∧ SCR ψ ξ ∧ FRCD φ ψ ∧ FRMD χ ξ
theorem actd_0 {φ χ : hf_F} {r s : Int} (hb : CB (χ 194)) (h : SCR φ χ) (e : r = s) : ACTD φ χ φ (hf_up χ 192 0 0) r s := ⟨e, scr_0 hb h, fun _ _ _ _ _ _ _ => rfl, fun a k q1 q2 q3 q4 => frm_0 χ a k q1 q2 q3⟩
theorem seed_r {φ χ : hf_F} (hb : CB (χ 194)) (h : SCR φ χ) (w : Int) : SCR (hf_up φ 188 0 w) (hf_up χ 192 29 w) := scr_f hb h (fun a k q => hf_up_ne (by omega)) rfl (fun _ => rfl) (fun _ _ => rfl) (fun _ _ => rfl)
theorem drawn_rel {φ χ ψ ξ : hf_F} {v1 v2 r s : Int} (hI : Inv χ) (h : SCR φ χ) (e1 : F_RideLaws_drawn_0 φ v1 v2 = (r, ψ)) (e2 : F_RideLawsModel_drawn_192 χ v1 v2 = (s, ξ)) : ACTD φ χ ψ ξ r s := by
  have hb := cb_i hI
  have h0 := scr_0 hb h
  have hI0 : Inv (hf_up χ 192 0 0) := inv_0 hI
  have hT := h.2.2.2
  unfold TKB at hT
  unfold F_RideLaws_drawn_0 at e1
  unfold F_RideLawsModel_drawn_192 at e2
  rw [bnp_e (isin_e _ v1 _ _)] at e2
  by_cases c : 1 ≤ v1 ∧ v1 ≤ 60
  · have e99 : φ 17 0 = χ 194 99 := h.2.1.1.1.1
    have hl : F_State_ticksLeft_17 φ = 1000 - χ 194 99 := by
      unfold F_State_ticksLeft_17
      rw [e99, show jm_n (1000 - χ 194 99) = 1000 - χ 194 99 from hi_n (by unfold hi; omega), show jm_n 0 = 0 from hi_n (by unfold hi; omega)]
      by_cases c2 : 0 < 1000 - χ 194 99
      · rw [if_pos c2]
      · rw [if_neg c2]; omega
    rw [if_neg (show ¬ v1 < 1 by omega), if_pos c.2, bnp_e hl] at e1
    rw [if_pos c, if_pos (by decide), show jm_n (χ 194 99) = χ 194 99 from hi_n (by unfold hi; omega)] at e2
    rw [show jm_n (1000 - χ 194 99) = 1000 - χ 194 99 from hi_n (by unfold hi; omega), show jm_n v1 = v1 from hi_n (by unfold hi; omega)] at e1
    generalize hg : (if 1000 - χ 194 99 < v1 then 1000 - χ 194 99 else v1) = g at e1
    have hg1 : g ≤ v1 ∧ 0 ≤ g ∧ χ 194 99 + g ≤ 1000 ∧ (g = v1 ∨ χ 194 99 + g = 1000) := by
      rw [← hg]
      by_cases c2 : 1000 - χ 194 99 < v1
      · rw [if_pos c2]; omega
      · rw [if_neg c2]; omega
    rw [show jm_n g = g from hi_n (by unfold hi; omega)] at e1
    by_cases c3 : 1000 ≤ χ 194 99
    · rw [if_pos (show g ≤ 0 by omega)] at e1
      rw [if_pos c3] at e2
      obtain ⟨ψ2, ξ2, i1, i2, i3, i4, i5⟩ := drawn_l v1 v2 g c.2 ((60 - 0 : Int).toNat + 1) ((60 - 0 : Int).toNat + 1) (hf_up φ 188 0 v2) (hf_up (hf_up χ 192 0 0) 192 29 v2) 0 (by omega) (by omega) (by decide) (by omega) hg1.1 (K_seed hI0 v2) (seed_r hb h0 v2) rfl (by show χ 194 99 + (g - 0) ≤ 1000; omega) (by show g = v1 ∨ χ 194 99 + (g - 0) = 1000; omega)
      rw [i1] at e1
      have i2' : F_RideLawsModel_draws_192 (hf_up χ 192 0 0) v1 v2 = (g, ξ2) := i2
      rw [bnd_e i2'] at e2
      cases e1
      cases e2
      exact ⟨rfl, i3, fun a k q1 q2 q3 q4 q5 => (i4 a k q1 q2 q3 q4 q5).trans (hf_up_ne q5), fun a k q1 q2 q3 q4 => (i5 a k q1 q2 q3 q4).trans ((hf_up_ne q4).trans (frm_0 χ a k q1 q2 q3))⟩
    · rw [if_neg (show ¬ g ≤ 0 by omega), bnv_e rfl] at e1
      rw [if_neg c3, bnv_e rfl] at e2
      obtain ⟨k1, k2, k3, k4, k5⟩ := keep_s (χ := hf_up χ 192 0 0) hb h0
      have hIk := (K_F_RideLawsModel_keep_192 hI0 rfl).1
      obtain ⟨ψ2, ξ2, i1, i2, i3, i4, i5⟩ := drawn_l v1 v2 g c.2 ((60 - 0 : Int).toNat + 1) ((60 - 0 : Int).toNat + 1) (hf_up (F_History_keep_108_17 φ) 188 0 v2) (hf_up (F_RideLawsModel_keep_192 (hf_up χ 192 0 0)) 192 29 v2) 0 (by omega) (by omega) (by decide) (by omega) hg1.1 (K_seed hIk v2) (seed_r (cb_i hIk) k1 v2) rfl (by show F_RideLawsModel_keep_192 (hf_up χ 192 0 0) 194 99 + (g - 0) ≤ 1000; rw [k5]; show χ 194 99 + (g - 0) ≤ 1000; omega) (by show g = v1 ∨ F_RideLawsModel_keep_192 (hf_up χ 192 0 0) 194 99 + (g - 0) = 1000; rw [k5]; show g = v1 ∨ χ 194 99 + (g - 0) = 1000; omega)
      rw [i1] at e1
      have i2' : F_RideLawsModel_draws_192 (F_RideLawsModel_keep_192 (hf_up χ 192 0 0)) v1 v2 = (g, ξ2) := i2
      rw [bnd_e i2'] at e2
      cases e1
      cases e2
      exact ⟨rfl, i3, fun a k q1 q2 q3 q4 q5 => (i4 a k q1 q2 q3 q4 q5).trans ((hf_up_ne q5).trans (k2 a k q1 q2 q3 q4)), fun a k q1 q2 q3 q4 => (i5 a k q1 q2 q3 q4).trans ((hf_up_ne q4).trans ((k3 a k q1 q2 q3).trans (frm_0 χ a k q1 q2 q3)))⟩
  · rw [if_neg c, if_neg (by decide)] at e2
    by_cases c2 : v1 < 1
    · rw [if_pos c2] at e1
      cases e1
      cases e2
      exact actd_0 hb h rfl
    · rw [if_neg c2, if_neg (show ¬ v1 ≤ 60 by omega)] at e1
      cases e1
      cases e2
      exact actd_0 hb h rfl
