/-! the public acts -/
noncomputable def SCR (φ χ : hf_F) : Prop := PLG 5 φ (χ 194) (χ 197) ∧ STG 17 φ (χ 194) (χ 194) ∧ HIS φ χ ∧ TKB (χ 194)
noncomputable def FRC (φ ψ : hf_F) : Prop := ∀ a k : Nat, ¬ (17 ≤ a ∧ a ≤ 25) → ¬ (a = 108 ∧ k = 1) → ¬ a = 109 → ¬ (110 ≤ a ∧ a ≤ 181) → ψ a k = φ a k
noncomputable def FRM (χ ξ : hf_F) : Prop := ∀ a k : Nat, ¬ (a = 194 ∧ 99 ≤ k ∧ k < 180) → ¬ a = 199 → ¬ (a = 192 ∧ (k = 0 ∨ k = 22)) → ξ a k = χ a k
theorem frc_r (φ : hf_F) : FRC φ φ := fun _ _ _ _ _ _ => rfl
theorem frc_t {φ ψ ζ : hf_F} (h : FRC φ ψ) (h2 : FRC ψ ζ) : FRC φ ζ := fun a k q1 q2 q3 q4 => (h2 a k q1 q2 q3 q4).trans (h a k q1 q2 q3 q4)
theorem frm_t {φ ψ ζ : hf_F} (h : FRM φ ψ) (h2 : FRM ψ ζ) : FRM φ ζ := fun a k q1 q2 q3 => (h2 a k q1 q2 q3).trans (h a k q1 q2 q3)
theorem his_f {φ χ φ' χ' : hf_F} (hb : CB (χ 194)) (hr : SRB (χ 194)) (h : HIS φ χ) (h1 : ∀ a k : Nat, (a = 108 ∧ k = 1) ∨ a = 109 ∨ (110 ≤ a ∧ a ≤ 181) → φ' a k = φ a k) (h2 : χ' 192 22 = χ 192 22) (h3 : ∀ k, χ' 199 k = χ 199 k) (h4 : ∀ k, k < 99 → χ' 194 k = χ 194 k) : HIS φ' χ' := by
  obtain ⟨a1, a2, a3, a4, a5⟩ := h
  refine ⟨?_, ?_, fun i hi => ?_, fun i j hi hj hij => ?_, fun j hj => ?_⟩
  · rw [h1 108 1 (by omega), h2]; exact a1
  · rw [h2]; exact a2
  · rw [h1 109 i (by omega)]; exact a3 i hi
  · rw [h1 109 i (by omega), h1 109 j (by omega)] at hij; exact a4 i j hi hj hij
  · rw [h2] at hj
    rw [h1 109 j (by omega)]
    obtain ⟨b1, b2⟩ := a5 j hj
    have hjr := bf_rng (a3 j (by omega))
    exact ⟨stg_o b1 hb (fun a k q => h1 a k (by omega)) h4 (fun k _ _ => h3 _) hr, tkb_g b2 (fun k q => h3 _)⟩
theorem scr_srb {φ χ : hf_F} (hb : CB (χ 194)) (h : SCR φ χ) : SRB (χ 194) := srb_s hb h.1.2.2.2.1
/-- other cells -/
theorem scr_f {φ χ φ' χ' : hf_F} (hb : CB (χ 194)) (h : SCR φ χ) (h1 : ∀ a k : Nat, (5 < a ∧ a ≤ 25) ∨ (a = 108 ∧ k = 1) ∨ a = 109 ∨ (110 ≤ a ∧ a ≤ 181) → φ' a k = φ a k) (h2 : χ' 192 22 = χ 192 22) (h3 : ∀ k, χ' 199 k = χ 199 k) (h4 : ∀ k, k < 180 → χ' 194 k = χ 194 k) (h5 : ∀ k, k < 33 → χ' 197 k = χ 197 k) : SCR φ' χ' := by
  have hr := scr_srb hb h
  obtain ⟨a1, a2, a3, a4⟩ := h
  refine ⟨plg_f a1 hb (fun a k q => h1 a k (by omega)) (fun k q => h4 k (by omega)) h5, stg_o a2 hb (fun a k q => h1 a k (by omega)) (fun k q => h4 k (by omega)) (fun k _ q => h4 k q) hr, his_f hb hr a3 (fun a k q => h1 a k (by omega)) h2 h3 (fun k q => h4 k (by omega)), ?_⟩
  exact tkb_g a4 (fun k q => h4 k (by omega))
/-- a step of the state alone -/
theorem scr_s {φ χ φ' χ' : hf_F} (hb : CB (χ 194)) (h : SCR φ χ) (h1 : ∀ a k : Nat, ¬ (17 ≤ a ∧ a ≤ 25) → φ' a k = φ a k) (h2 : ∀ a k : Nat, ¬ (a = 194 ∧ 99 ≤ k ∧ k < 180) → ¬ (a = 192 ∧ k = 0) → χ' a k = χ a k) (hs : STG 17 φ' (χ 194) (χ' 194)) (ht : TKB (χ' 194)) : SCR φ' χ' := by
  have hr := scr_srb hb h
  obtain ⟨a1, a2, a3, a4⟩ := h
  exact ⟨plg_f a1 hb (fun a k q => h1 a k (by omega)) (fun k q => h2 194 k (by omega) (by omega)) (fun k q => h2 197 k (by omega) (by omega)), stg_o hs hb (fun _ _ _ => rfl) (fun k q => h2 194 k (by omega) (by omega)) (fun _ _ _ => rfl) hr, his_f hb hr a3 (fun a k q => h1 a k (by omega)) (h2 192 22 (by omega) (by omega)) (fun k => h2 199 k (by omega) (by omega)) (fun k q => h2 194 k (by omega) (by omega)), ht⟩
theorem keep_s {φ χ : hf_F} (hb : CB (χ 194)) (h : SCR φ χ) : SCR (F_History_keep_108_17 φ) (F_RideLawsModel_keep_192 χ) ∧ FRC φ (F_History_keep_108_17 φ) ∧ FRM χ (F_RideLawsModel_keep_192 χ) ∧ (∀ a k : Nat, a < 108 → F_History_keep_108_17 φ a k = φ a k) ∧ (∀ k : Nat, F_RideLawsModel_keep_192 χ 194 k = χ 194 k) := by
  have hr := scr_srb hb h
  obtain ⟨a1, a2, a3, a4⟩ := h
  obtain ⟨k1, k2, k3, k4⟩ := keep_rel hb hr a3 a2 a4
  have e4 : ∀ k : Nat, F_RideLawsModel_keep_192 χ 194 k = χ 194 k := fun k => k3 194 k (by omega) (by omega)
  refine ⟨⟨plg_f a1 hb (fun a k q => k2 a k (by omega) (by omega) (by omega)) (fun k q => e4 k) (fun k q => k3 197 k (by omega) (by omega)), stg_o a2 hb (fun a k q => k2 a k (by omega) (by omega) (by omega)) (fun k _ => e4 k) (fun k _ _ => e4 k) hr, k1, ?_⟩, fun a k q1 q2 q3 q4 => k2 a k q3 q2 q4, fun a k q1 q2 q3 => k3 a k q2 (fun w => q3 ⟨w.1, Or.inr w.2⟩), fun a k q => k2 a k (by omega) (by omega) (by omega), e4⟩
  exact tkb_g a4 (fun k q => e4 k)
theorem in_e1 (v n : Int) : (if v < 0 then (0 : Int) else (if n ≤ v then 0 else 1)) = if 0 ≤ v ∧ v < n then 1 else 0 := by
  by_cases c : v < 0
  · rw [if_pos c, if_neg (fun q => by omega)]
  · by_cases c2 : n ≤ v
    · rw [if_neg c, if_pos c2, if_neg (fun q => by omega)]
    · rw [if_neg c, if_neg c2, if_pos ⟨by omega, by omega⟩]
theorem in_e2 (v a b : Int) : (if v < a then (0 : Int) else (if b < v then 0 else 1)) = if a ≤ v ∧ v ≤ b then 1 else 0 := by
  by_cases c : v < a
  · rw [if_pos c, if_neg (fun q => by omega)]
  · by_cases c2 : b < v
    · rw [if_neg c, if_pos c2, if_neg (fun q => by omega)]
    · rw [if_neg c, if_neg c2, if_pos ⟨by omega, by omega⟩]
theorem has_e1 (φ : hf_F) (v : Int) : F_RideLaws_has_0_k1_1 φ v = if 0 ≤ v ∧ v < φ 6 1 then 1 else 0 := in_e1 v _
theorem has_e2 (φ : hf_F) (v : Int) : F_RideLaws_has_0_k1_2 φ v = if 0 ≤ v ∧ v < φ 6 2 then 1 else 0 := in_e1 v _
theorem has_e3 (φ : hf_F) (v : Int) : F_RideLaws_has_0_k1_3 φ v = if 0 ≤ v ∧ v < φ 6 3 then 1 else 0 := in_e1 v _
theorem has_e4 (φ : hf_F) (v : Int) : F_RideLaws_has_0_k1_4 φ v = if 0 ≤ v ∧ v < φ 6 4 then 1 else 0 := in_e1 v _
theorem isin_e (φ : hf_F) (v a b : Int) : F_RideLawsModel_isIn φ v a b = if a ≤ v ∧ v ≤ b then 1 else 0 := in_e2 v a b
theorem isrider_e (φ : hf_F) (v : Int) : F_RideLawsModel_isRider_192 φ v = if 0 ≤ v ∧ v ≤ φ 194 3 - 1 then 1 else 0 := in_e2 v _ _
theorem isseat_e (φ : hf_F) (v : Int) : F_RideLawsModel_isSeat_192 φ v = if 0 ≤ v ∧ v ≤ φ 194 1 - 1 then 1 else 0 := in_e2 v _ _
theorem frm_0 (χ : hf_F) : FRM χ (hf_up χ 192 0 0) := fun a k _ _ q => hf_up_ne (fun w => q ⟨w.1, Or.inl w.2⟩)
theorem scr_0 {φ χ : hf_F} (hb : CB (χ 194)) (h : SCR φ χ) : SCR φ (hf_up χ 192 0 0) := scr_f hb h (fun _ _ _ => rfl) rfl (fun _ => rfl) (fun _ _ => rfl) (fun _ _ => rfl)
noncomputable def ACT (φ χ ψ ξ : hf_F) (r s : Int) : Prop := r = s ∧ SCR ψ ξ ∧ FRC φ ψ ∧ FRM χ ξ
theorem act_0 {φ χ : hf_F} {r s : Int} (hb : CB (χ 194)) (h : SCR φ χ) (e : r = s) : ACT φ χ φ (hf_up χ 192 0 0) r s := ⟨e, scr_0 hb h, frc_r φ, frm_0 χ⟩
theorem whyw_17 {φ χ : hf_F} (h : STG 17 φ (χ 194) (χ 194)) : F_State_whyNotWhistle_17 φ = F_RideLawsModel_whyWhistle_192 χ := by
  obtain ⟨⟨⟨_, s2, s3, s4, _⟩, _⟩, _⟩ := h
  unfold F_State_whyNotWhistle_17 F_RideLawsModel_whyWhistle_192
  rw [s4, s2]
  by_cases c : χ 194 102 = 0
  · rw [if_neg (show ¬ ¬ χ 194 102 = 0 from fun q => q c), if_neg (show ¬ ¬ χ 194 102 = 0 from fun q => q c)]
    by_cases c2 : χ 194 100 = 0
    · rw [if_neg (show ¬ ¬ χ 194 100 - 1 = -1 by omega), if_neg (show ¬ ¬ χ 194 100 = 0 from fun q => q c2)]
    · rw [if_pos (show ¬ χ 194 100 - 1 = -1 by omega), if_pos (show ¬ χ 194 100 = 0 from c2)]
  · rw [if_pos (show ¬ χ 194 102 = 0 from c), if_pos (show ¬ χ 194 102 = 0 from c)]
theorem blows_f (χ : hf_F) : (∀ k, F_RideLawsModel_blows_192 χ 194 k = if 160 ≤ k ∧ k < 166 then 0 else if k = 103 then χ 194 103 + 1 else if k = 100 ∨ k = 101 ∨ k = 102 then 0 else χ 194 k) ∧ ∀ a k, ¬ a = 194 → F_RideLawsModel_blows_192 χ a k = χ a k := by
  unfold F_RideLawsModel_blows_192
  refine ⟨fun k => ?_, fun a k ha => ?_⟩
  · by_cases c : 160 ≤ k ∧ k < 166
    · rw [hf_mp_in c.1 c.2, if_pos c]
    · rw [hf_mp_ne (fun w => c ⟨w.2.1, w.2.2⟩), if_neg c]
      by_cases c1 : k = 103
      · rw [c1, hf_up_eq, if_pos rfl]
      · rw [hf_up_ne (fun w => c1 w.2), if_neg c1]
        by_cases c2 : k = 101
        · rw [c2, hf_up_eq, if_pos (by decide)]
        · rw [hf_up_ne (fun w => c2 w.2)]
          by_cases c3 : k = 100
          · rw [c3, hf_up_eq, if_pos (by decide)]
          · rw [hf_up_ne (fun w => c3 w.2)]
            by_cases c4 : k = 102
            · rw [c4, hf_up_eq, if_pos (by decide)]
            · rw [hf_up_ne (fun w => c4 w.2), if_neg (fun q => by omega)]
  · rw [hf_mp_ne (fun w => ha w.1), hf_up_ne (fun w => ha w.1), hf_up_ne (fun w => ha w.1), hf_up_ne (fun w => ha w.1), hf_up_ne (fun w => ha w.1)]
/-- the steps AT which the seats are: unchanged -/
theorem atg_f {b : Nat} {φ φ' : hf_F} {c m m' : Nat → Int} (hb : CB c) (h : ATG b φ c m) (h1 : ∀ k, φ' (b + 1) k = φ (b + 1) k) (h2 : ∀ k, 104 ≤ k → k < 112 → m' k = m k) : ATG b φ' c m' := by
  unfold CB at hb
  intro i hi
  rw [h1, h2 (104 + i) (by omega) (by omega)]
  exact h i hi
theorem whistle_rel {φ χ ψ ξ : hf_F} {r s : Int} (hI : Inv χ) (h : SCR φ χ) (e1 : F_RideLaws_whistle_0 φ = (r, ψ)) (e2 : F_RideLawsModel_whistle_192 χ = (s, ξ)) : ACT φ χ ψ ξ r s := by
  have hb := cb_i hI
  have h0 := scr_0 hb h
  have hw := whyw_17 h0.2.1
  unfold F_RideLaws_whistle_0 at e1
  unfold F_RideLawsModel_whistle_192 at e2
  rw [bnp_e hw] at e1
  rw [bnp_e rfl] at e2
  have hv : F_RideLawsModel_whyWhistle_192 (hf_up χ 192 0 0) = 0 ∨ F_RideLawsModel_whyWhistle_192 (hf_up χ 192 0 0) = 1 := by
    unfold F_RideLawsModel_whyWhistle_192
    split
    · exact Or.inl rfl
    · split
      · exact Or.inl rfl
      · exact Or.inr rfl
  rcases hv with v | v
  · rw [v] at e1 e2
    rw [if_neg (fun q => q rfl)] at e1
    rw [if_pos (by decide)] at e2
    obtain ⟨k1, k2, k3, k4, k5⟩ := keep_s (χ := hf_up χ 192 0 0) hb h0
    rw [bnv_e rfl, bnv_e rfl] at e1 e2
    generalize F_History_keep_108_17 φ = φ1 at e1 k1 k2 k4
    generalize F_RideLawsModel_keep_192 (hf_up χ 192 0 0) = χ1 at e2 k1 k3 k5
    cases e1
    cases e2
    have hb1 : CB (χ1 194) := by rw [show χ1 194 = χ 194 from funext k5]; exact hb
    have hbb := hb1
    unfold CB at hbb
    obtain ⟨b1, b2⟩ := blows_f χ1
    obtain ⟨w1, w2⟩ := blw_17 (by omega) k1.2.1.1 b1
    refine ⟨rfl, scr_s hb1 k1 (fun a k q => w2 a k (by omega)) (fun a k q1 q2 => ?_) ⟨w1, atg_f hb1 k1.2.1.2 (fun k => w2 18 k (by decide)) (fun k q1 q2 => ?_)⟩ ?_, frc_t k2 (fun a k q1 q2 q3 q4 => w2 a k (by omega)), frm_t (frm_t (frm_0 χ) k3) (fun a k q1 q2 q3 => ?_)⟩
    · by_cases ha : a = 194
      · rw [ha] at q1 ⊢
        rw [b1, if_neg (by omega), if_neg (by omega), if_neg (by omega)]
      · exact b2 a k ha
    · rw [b1, if_neg (by omega), if_neg (by omega), if_neg (by omega)]
    · exact tkb_g k1.2.2.2 (fun k q => by rw [b1, if_neg (by omega), if_neg (by omega), if_neg (by omega)])
    · by_cases ha : a = 194
      · rw [ha] at q1 ⊢
        rw [b1, if_neg (by omega), if_neg (by omega), if_neg (by omega)]
      · exact b2 a k ha
  · rw [v] at e1 e2
    rw [if_pos (by decide)] at e1
    rw [if_neg (by decide)] at e2
    cases e1
    cases e2
    exact act_0 hb h rfl
theorem act_k {φ χ φ2 χ2 : hf_F} (hb : CB (χ 194)) (h : SCR φ χ) (h1 : ∀ a k : Nat, ¬ (17 ≤ a ∧ a ≤ 25) → φ2 a k = F_History_keep_108_17 φ a k) (h2 : ∀ a k : Nat, ¬ (a = 194 ∧ 99 ≤ k ∧ k < 180) → χ2 a k = F_RideLawsModel_keep_192 (hf_up χ 192 0 0) a k)
    (hS : SCR (F_History_keep_108_17 φ) (F_RideLawsModel_keep_192 (hf_up χ 192 0 0)) → CB (F_RideLawsModel_keep_192 (hf_up χ 192 0 0) 194) → STG 17 φ2 (F_RideLawsModel_keep_192 (hf_up χ 192 0 0) 194) (χ2 194) ∧ TKB (χ2 194)) : ACT φ χ φ2 χ2 0 0 := by
  obtain ⟨k1, k2, k3, k4, k5⟩ := keep_s (χ := hf_up χ 192 0 0) hb (scr_0 hb h)
  have hb1 : CB (F_RideLawsModel_keep_192 (hf_up χ 192 0 0) 194) := by rw [show F_RideLawsModel_keep_192 (hf_up χ 192 0 0) 194 = χ 194 from funext k5]; exact hb
  obtain ⟨s1, s2⟩ := hS k1 hb1
  exact ⟨rfl, scr_s hb1 k1 h1 (fun a k q1 q2 => h2 a k q1) s1 s2, frc_t k2 (fun a k q1 q2 q3 q4 => h1 a k q1), frm_t (frm_t (frm_0 χ) k3) (fun a k q1 q2 q3 => h2 a k q1)⟩
theorem rol_z {φ χ : hf_F} (h : STG 17 φ (χ 194) (χ 194)) : ∀ r : Nat, r < 6 → χ 194 3 ≤ (r : Int) → χ 194 (112 + r) = 0 := fun r hr q => ((h.1.2.2.1 r hr).2.2.2.2.1 q).1
theorem whym_17 {φ χ : hf_F} (hc : χ 194 3 ≤ 6) (h : STG 17 φ (χ 194) (χ 194)) (r s : Nat) (hr : r < 6) (hs : s < 8) : F_State_whyNotMount_17 φ (r : Int) (s : Int) = F_RideLawsModel_whyMount_192 χ (r : Int) (s : Int) := by
  have hron := ron_17 hc h.1.2.1 (rol_z h) s hs
  obtain ⟨a1, _, _, _, _, ⟨b1, _⟩, _⟩ := h.1.2.2.1 r hr
  have a1' : φ 20 r = χ 194 (112 + r) - 1 := a1
  unfold F_State_whyNotMount_17 F_RideLawsModel_whyMount_192
  rw [show ((r : Int)).toNat = r by omega, show ((s : Int)).toNat = s by omega, show (112 + (r : Int)).toNat = 112 + r by omega, a1']
  by_cases c : χ 194 (112 + r) ≤ 0
  · rw [if_pos (show χ 194 (112 + r) - 1 = -1 by omega), if_pos c, bnp_e hron]
    rcases h.1.2.1 s hs with ⟨z1, _⟩ | ⟨q, _, z1, _⟩
    · have z1' : φ 19 s = -1 := z1
      rw [z1', if_pos rfl, if_pos (by decide)]
    · have z1' : φ 19 s = (q : Int) := z1
      rw [z1', if_neg (show ¬ (q : Int) = -1 by omega), if_neg (show ¬ (q : Int) < 0 by omega)]
  · rw [if_neg (show ¬ χ 194 (112 + r) - 1 = -1 by omega), if_neg c]
theorem whym_z {φ : hf_F} {r s : Int} (h : F_State_whyNotMount_17 φ r s = 0) : φ 20 r.toNat = -1 ∧ φ 19 s.toNat = -1 := by
  unfold F_State_whyNotMount_17 at h
  by_cases c : φ 20 r.toNat = -1
  · rw [if_pos c] at h
    by_cases c2 : φ 19 s.toNat = -1
    · exact ⟨c, c2⟩
    · rw [if_neg c2] at h
      omega
  · rw [if_neg c] at h
    omega
theorem mount_rel {φ χ ψ ξ : hf_F} {v1 v2 r s : Int} (hI : Inv χ) (h : SCR φ χ) (e1 : F_RideLaws_mount_0 φ v1 v2 = (r, ψ)) (e2 : F_RideLawsModel_mount_192 χ v1 v2 = (s, ξ)) : ACT φ χ ψ ξ r s := by
  have hb := cb_i hI
  have hbb := hb
  unfold CB at hbb
  have h0 := scr_0 hb h
  unfold F_RideLaws_mount_0 at e1
  unfold F_RideLawsModel_mount_192 at e2
  have k3 : φ 6 3 = χ 194 3 := h.1.1.2.2.2.1
  have k1 : φ 6 1 = χ 194 1 := h.1.1.2.1
  rw [bnp_e (has_e3 φ v1), k3] at e1
  rw [bnp_e (isrider_e _ v1), show hf_up χ 192 0 0 194 3 = χ 194 3 from rfl] at e2
  by_cases c : 0 ≤ v1 ∧ v1 < χ 194 3
  · rw [if_pos c, if_neg (by decide), bnp_e (has_e1 φ v2), k1] at e1
    rw [if_pos (show 0 ≤ v1 ∧ v1 ≤ χ 194 3 - 1 from ⟨c.1, by omega⟩), if_neg (by decide), bnp_e (isseat_e _ v2), show hf_up χ 192 0 0 194 1 = χ 194 1 from rfl] at e2
    by_cases c2 : 0 ≤ v2 ∧ v2 < χ 194 1
    · rw [if_pos c2, if_pos (by decide)] at e1
      rw [if_pos (show 0 ≤ v2 ∧ v2 ≤ χ 194 1 - 1 from ⟨c2.1, by omega⟩), if_pos (by decide)] at e2
      have hw := whym_17 (χ := hf_up χ 192 0 0) (by show χ 194 3 ≤ 6; omega) h0.2.1 v1.toNat v2.toNat (by omega) (by omega)
      rw [show ((v1.toNat : Nat) : Int) = v1 by omega, show ((v2.toNat : Nat) : Int) = v2 by omega] at hw
      rw [bnp_e hw] at e1
      rw [bnp_e rfl] at e2
      by_cases c3 : F_RideLawsModel_whyMount_192 (hf_up χ 192 0 0) v1 v2 = 0
      · rw [c3] at e1 e2
        rw [if_neg (fun q => q rfl), bnv_e rfl, bnv_e rfl] at e1
        rw [if_pos (by decide), bnv_e rfl] at e2
        cases e1
        cases e2
        obtain ⟨z1, z2⟩ := whym_z (hw.trans c3)
        have hk := (keep_s (χ := hf_up χ 192 0 0) hb h0).2.2.2.1
        have hk5 := (keep_s (χ := hf_up χ 192 0 0) hb h0).2.2.2.2
        have e112 : (112 + v1).toNat = 112 + v1.toNat := by omega
        rw [e112]
        have hm : ∀ k, hf_up (F_RideLawsModel_keep_192 (hf_up χ 192 0 0)) 194 (112 + v1.toNat) (v2 + 1) 194 k = if k = 112 + v1.toNat then ((v2.toNat : Nat) : Int) + 1 else F_RideLawsModel_keep_192 (hf_up χ 192 0 0) 194 k := fun k => by
          by_cases c4 : k = 112 + v1.toNat
          · rw [if_pos c4, c4, hf_up_eq]; omega
          · rw [if_neg c4, up_k c4]
        have hs := fun (hS : SCR (F_History_keep_108_17 φ) (F_RideLawsModel_keep_192 (hf_up χ 192 0 0))) => sit_17 (c := F_RideLawsModel_keep_192 (hf_up χ 192 0 0) 194) (r := v1.toNat) (s := v2.toNat) (by omega) (by omega) (by rw [hk5]; show ((v1.toNat : Nat) : Int) < χ 194 3; omega) (by rw [hk5]; show ((v2.toNat : Nat) : Int) < χ 194 1; omega) hS.2.1.1 (by rw [hk 20 _ (by decide)]; exact z1) (by rw [hk 19 _ (by decide)]; exact z2) hm
        rw [show ((v1.toNat : Nat) : Int) = v1 by omega, show ((v2.toNat : Nat) : Int) = v2 by omega] at hs
        have hK := (keep_s (χ := hf_up χ 192 0 0) hb h0).1
        refine act_k hb h (fun a k q => (hs hK).2 a k (by omega)) (fun a k q => hf_up_ne (by omega)) (fun hS hB => ⟨⟨(hs hS).1, atg_f hB hS.2.1.2 (fun k => (hs hS).2 18 k (by decide)) (fun k q1 q2 => up_k (by omega))⟩, ?_⟩)
        exact tkb_g hS.2.2.2 (fun k q => up_k (by omega))
      · rw [if_pos c3] at e1
        have hp : ¬ F_RideLawsModel_whyMount_192 (hf_up χ 192 0 0) v1 v2 ≤ 0 := fun q => by
          rw [← hw] at q c3
          unfold F_State_whyNotMount_17 at q c3
          by_cases c4 : φ 20 v1.toNat = -1
          · rw [if_pos c4] at q c3
            by_cases c5 : φ 19 v2.toNat = -1
            · rw [if_pos c5] at c3; omega
            · rw [if_neg c5] at q; omega
          · rw [if_neg c4] at q; omega
        rw [if_neg hp] at e2
        cases e1
        cases e2
        exact act_0 hb h rfl
    · rw [if_neg c2, if_neg (by decide)] at e1
      rw [if_neg (show ¬ (0 ≤ v2 ∧ v2 ≤ χ 194 1 - 1) by omega), if_neg (by decide)] at e2
      cases e1
      cases e2
      exact act_0 hb h rfl
  · rw [if_neg c, if_pos rfl] at e1
    rw [if_neg (show ¬ (0 ≤ v1 ∧ v1 ≤ χ 194 3 - 1) by omega), if_pos rfl] at e2
    cases e1
    cases e2
    exact act_0 hb h rfl
theorem alight_rel {φ χ ψ ξ : hf_F} {v1 r s : Int} (hI : Inv χ) (h : SCR φ χ) (e1 : F_RideLaws_alight_0 φ v1 = (r, ψ)) (e2 : F_RideLawsModel_alight_192 χ v1 = (s, ξ)) : ACT φ χ ψ ξ r s := by
  have hb := cb_i hI
  have hbb := hb
  unfold CB at hbb
  have h0 := scr_0 hb h
  unfold F_RideLaws_alight_0 at e1
  unfold F_RideLawsModel_alight_192 at e2
  have k3 : φ 6 3 = χ 194 3 := h.1.1.2.2.2.1
  rw [bnp_e (has_e3 φ v1), k3] at e1
  rw [bnp_e (isrider_e _ v1), show hf_up χ 192 0 0 194 3 = χ 194 3 from rfl] at e2
  by_cases c : 0 ≤ v1 ∧ v1 < χ 194 3
  · rw [if_pos c, if_pos (by decide)] at e1
    rw [if_pos (show 0 ≤ v1 ∧ v1 ≤ χ 194 3 - 1 from ⟨c.1, by omega⟩), if_pos (by decide)] at e2
    have e112 : (112 + v1).toNat = 112 + v1.toNat := by omega
    rw [e112] at e2
    have ha : φ 20 v1.toNat = χ 194 (112 + v1.toNat) - 1 := (h.2.1.1.2.2.1 v1.toNat (by omega)).1
    by_cases c2 : χ 194 (112 + v1.toNat) = 0
    · have hw : F_State_whyNotAlight_17 φ v1 = 1 := by
        unfold F_State_whyNotAlight_17
        rw [if_neg (show ¬ ¬ φ 20 v1.toNat = -1 by omega)]
      rw [bnp_e hw, if_pos (by decide)] at e1
      rw [if_neg (fun q => q c2)] at e2
      cases e1
      cases e2
      exact act_0 hb h rfl
    · have hw : F_State_whyNotAlight_17 φ v1 = 0 := by
        unfold F_State_whyNotAlight_17
        rw [if_pos (show ¬ φ 20 v1.toNat = -1 by omega)]
      rw [bnp_e hw, if_neg (by decide), bnv_e rfl, bnv_e rfl] at e1
      rw [if_pos c2, bnv_e rfl] at e2
      cases e1
      cases e2
      have hk := (keep_s (χ := hf_up χ 192 0 0) hb h0).2.2.2.1
      have hk5 := (keep_s (χ := hf_up χ 192 0 0) hb h0).2.2.2.2
      have hm : ∀ k, hf_up (F_RideLawsModel_keep_192 (hf_up χ 192 0 0)) 194 (112 + v1.toNat) 0 194 k = if k = 112 + v1.toNat then 0 else F_RideLawsModel_keep_192 (hf_up χ 192 0 0) 194 k := fun k => by
        by_cases c4 : k = 112 + v1.toNat
        · rw [if_pos c4, c4, hf_up_eq]
        · rw [if_neg c4, up_k c4]
      have hs := fun (hS : SCR (F_History_keep_108_17 φ) (F_RideLawsModel_keep_192 (hf_up χ 192 0 0))) => off_17 (c := F_RideLawsModel_keep_192 (hf_up χ 192 0 0) 194) (r := v1.toNat) (by omega) (by rw [hk5]; show χ 194 1 ≤ 8; omega) hS.2.1.1 (by rw [hk 20 _ (by decide), ha]; omega) hm
      rw [show ((v1.toNat : Nat) : Int) = v1 by omega] at hs
      have hK := (keep_s (χ := hf_up χ 192 0 0) hb h0).1
      refine act_k hb h (fun a k q => (hs hK).2 a k (by omega)) (fun a k q => hf_up_ne (by omega)) (fun hS hB => ⟨⟨(hs hS).1, atg_f hB hS.2.1.2 (fun k => (hs hS).2 18 k (by decide)) (fun k q1 q2 => up_k (by omega))⟩, ?_⟩)
      exact tkb_g hS.2.2.2 (fun k q => up_k (by omega))
  · rw [if_neg c, if_neg (by decide)] at e1
    rw [if_neg (show ¬ (0 ≤ v1 ∧ v1 ≤ χ 194 3 - 1) by omega), if_neg (by decide)] at e2
    cases e1
    cases e2
    exact act_0 hb h rfl
/-- what the model's LEARNS changes -/
theorem learns_f {χ : hf_F} {r : Nat} {w : Int} (hr : r < 6) (h0 : 0 ≤ χ 194 (118 + r) ∧ χ 194 (118 + r) < 6) : (∀ k, F_RideLawsModel_learns_192 χ (r : Int) w 194 k = if k = 118 + r then χ 194 (118 + r) + 1 else if k = 124 + 6 * r + (χ 194 (118 + r)).toNat then w else χ 194 k) ∧ ∀ a k, ¬ a = 194 → F_RideLawsModel_learns_192 χ (r : Int) w a k = χ a k := by
  unfold F_RideLawsModel_learns_192
  rw [show (118 + (r : Int)).toNat = 118 + r by omega, show (124 + 6 * (r : Int) + χ 194 (118 + r)).toNat = 124 + 6 * r + (χ 194 (118 + r)).toNat by omega]
  refine ⟨fun k => ?_, fun a k ha => ?_⟩
  · by_cases c : k = 118 + r
    · rw [c, hf_up_eq, if_pos rfl, up_k (by omega)]
    · rw [up_k c, if_neg c]
      by_cases c2 : k = 124 + 6 * r + (χ 194 (118 + r)).toNat
      · rw [if_pos c2, c2, hf_up_eq]
      · rw [if_neg c2, up_k c2]
  · rw [hf_up_ne (fun q => ha q.1), hf_up_ne (fun q => ha q.1)]
theorem learn_rel {φ χ ψ ξ : hf_F} {v1 v2 r s : Int} (hI : Inv χ) (h : SCR φ χ) (e1 : F_RideLaws_learn_0 φ v1 v2 = (r, ψ)) (e2 : F_RideLawsModel_learn_192 χ v1 v2 = (s, ξ)) : ACT φ χ ψ ξ r s := by
  have hb := cb_i hI
  have hbb := hb
  unfold CB at hbb
  have h0 := scr_0 hb h
  unfold F_RideLaws_learn_0 at e1
  unfold F_RideLawsModel_learn_192 at e2
  have k3 : φ 6 3 = χ 194 3 := h.1.1.2.2.2.1
  have k2 : φ 6 2 = χ 194 2 := h.1.1.2.2.1
  rw [bnp_e (has_e3 φ v1), k3] at e1
  rw [bnp_e (isrider_e _ v1), show hf_up χ 192 0 0 194 3 = χ 194 3 from rfl] at e2
  by_cases c : 0 ≤ v1 ∧ v1 < χ 194 3
  · rw [if_pos c, if_neg (by decide), bnp_e (has_e2 φ v2), k2] at e1
    rw [if_pos (show 0 ≤ v1 ∧ v1 ≤ χ 194 3 - 1 from ⟨c.1, by omega⟩), if_neg (by decide), bnp_e (isin_e _ v2 _ _)] at e2
    by_cases c2 : 0 ≤ v2 ∧ v2 < χ 194 2
    · rw [if_pos c2, if_pos (by decide)] at e1
      rw [if_pos (show 0 ≤ v2 ∧ v2 ≤ χ 194 2 - 1 from ⟨c2.1, by omega⟩), if_pos (by decide)] at e2
      have e118 : (118 + v1).toNat = 118 + v1.toNat := by omega
      have hrl := h.2.1.1.2.2.1 v1.toNat (by omega)
      have ha : φ 21 v1.toNat = χ 194 (118 + v1.toNat) := hrl.2.1
      have hr6 : 0 ≤ χ 194 (118 + v1.toNat) ∧ χ 194 (118 + v1.toNat) ≤ 6 := hrl.2.2.2.2.2.2.1
      by_cases c3 : χ 194 (118 + v1.toNat) = 6
      · have hw : F_State_whyNotLearn_17 φ v1 = 1 := by
          unfold F_State_whyNotLearn_17
          rw [if_neg (show ¬ φ 21 v1.toNat < 6 by omega)]
        have hw2 : F_RideLawsModel_whyLearn_192 (hf_up χ 192 0 0) v1 = 1 := by
          unfold F_RideLawsModel_whyLearn_192
          rw [e118]
          exact if_neg (fun q => q c3)
        rw [bnp_e hw, if_pos (by decide)] at e1
        rw [bnp_e hw2, if_neg (by decide)] at e2
        cases e1
        cases e2
        exact act_0 hb h rfl
      · have hw : F_State_whyNotLearn_17 φ v1 = 0 := by
          unfold F_State_whyNotLearn_17
          rw [if_pos (show φ 21 v1.toNat < 6 by omega)]
        have hw2 : F_RideLawsModel_whyLearn_192 (hf_up χ 192 0 0) v1 = 0 := by
          unfold F_RideLawsModel_whyLearn_192
          rw [e118]
          exact if_pos c3
        rw [bnp_e hw, if_neg (by decide), bnv_e rfl, bnv_e rfl] at e1
        rw [bnp_e hw2, if_pos (by decide), bnv_e rfl, bnv_e rfl] at e2
        cases e1
        cases e2
        have hk := (keep_s (χ := hf_up χ 192 0 0) hb h0).2.2.2.1
        have hk5 := (keep_s (χ := hf_up χ 192 0 0) hb h0).2.2.2.2
        obtain ⟨b1, b2⟩ := learns_f (χ := F_RideLawsModel_keep_192 (hf_up χ 192 0 0)) (r := v1.toNat) (w := v2) (by omega) (by rw [hk5]; show 0 ≤ χ 194 (118 + v1.toNat) ∧ χ 194 (118 + v1.toNat) < 6; omega)
        rw [show ((v1.toNat : Nat) : Int) = v1 by omega] at b1 b2
        have hx : (F_RideLawsModel_keep_192 (hf_up χ 192 0 0) 194 (118 + v1.toNat)).toNat < 6 := by
          rw [hk5]; show (χ 194 (118 + v1.toNat)).toNat < 6; omega
        have hm : ∀ k, F_RideLawsModel_learns_192 (F_RideLawsModel_keep_192 (hf_up χ 192 0 0)) v1 v2 194 k = if k = 118 + v1.toNat then F_RideLawsModel_keep_192 (hf_up χ 192 0 0) 194 (118 + v1.toNat) + 1 else if k = 124 + 6 * v1.toNat + (F_RideLawsModel_keep_192 (hf_up χ 192 0 0) 194 (118 + v1.toNat)).toNat then ((v2.toNat : Nat) : Int) else F_RideLawsModel_keep_192 (hf_up χ 192 0 0) 194 k := fun k => by
          rw [b1, show ((v2.toNat : Nat) : Int) = v2 by omega]
        have hs := fun (hS : SCR (F_History_keep_108_17 φ) (F_RideLawsModel_keep_192 (hf_up χ 192 0 0))) => lrn_17 (c := F_RideLawsModel_keep_192 (hf_up χ 192 0 0) 194) (r := v1.toNat) (w := v2.toNat) (by omega) (by rw [hk5]; show ((v1.toNat : Nat) : Int) < χ 194 3; omega) (by rw [hk5]; show ((v2.toNat : Nat) : Int) < χ 194 2; omega) hS.2.1.1 (by rw [hk5]; show χ 194 (118 + v1.toNat) < 6; omega) hm
        rw [show ((v1.toNat : Nat) : Int) = v1 by omega, show ((v2.toNat : Nat) : Int) = v2 by omega] at hs
        have hK := (keep_s (χ := hf_up χ 192 0 0) hb h0).1
        have hne : ∀ k, ¬ (118 ≤ k ∧ k < 160) → F_RideLawsModel_learns_192 (F_RideLawsModel_keep_192 (hf_up χ 192 0 0)) v1 v2 194 k = F_RideLawsModel_keep_192 (hf_up χ 192 0 0) 194 k := fun k q => by
          rw [b1, if_neg (show ¬ k = 118 + v1.toNat by omega), if_neg (show ¬ k = 124 + 6 * v1.toNat + (F_RideLawsModel_keep_192 (hf_up χ 192 0 0) 194 (118 + v1.toNat)).toNat by omega)]
        refine act_k hb h (fun a k q => (hs hK).2 a k (by omega)) (fun a k q => ?_) (fun hS hB => ⟨⟨(hs hS).1, atg_f hB hS.2.1.2 (fun k => (hs hS).2 18 k (by decide)) (fun k q1 q2 => hne k (by omega))⟩, ?_⟩)
        · by_cases ha : a = 194
          · rw [ha] at q ⊢
            exact hne k (by omega)
          · exact b2 a k ha
        · exact tkb_g hS.2.2.2 (fun k q => hne k (by omega))
    · rw [if_neg c2, if_neg (by decide)] at e1
      rw [if_neg (show ¬ (0 ≤ v2 ∧ v2 ≤ χ 194 2 - 1) by omega), if_neg (by decide)] at e2
      cases e1
      cases e2
      exact act_0 hb h rfl
  · rw [if_neg c, if_pos rfl] at e1
    rw [if_neg (show ¬ (0 ≤ v1 ∧ v1 ≤ χ 194 3 - 1) by omega), if_pos rfl] at e2
    cases e1
    cases e2
    exact act_0 hb h rfl
theorem undo_act {φ χ ψ ξ : hf_F} {r s : Int} (hI : Inv χ) (h : SCR φ χ) (e1 : F_RideLaws_undo_0 φ = (r, ψ)) (e2 : F_RideLawsModel_undo_192 χ = (s, ξ)) : ACT φ χ ψ ξ r s := by
  have hb := cb_i hI
  have hr := scr_srb hb h
  obtain ⟨u1, u2, u3, u4, u5⟩ := undo_rel hb hr h.2.2.1 e1 e2
  have m99 : ∀ k, k < 99 → ξ 194 k = χ 194 k := fun k q => u4 194 k (by omega) (by omega)
  have hP : PLG 5 ψ (ξ 194) (ξ 197) := plg_f h.1 hb (fun a k q => u3 a k (by omega) (by omega)) m99 (fun k q => u4 197 k (by omega) (by omega))
  refine ⟨u1, ⟨hP, ?_, u2, ?_⟩, fun a k q1 q2 q3 q4 => u3 a k q2 q1, fun a k q1 q2 q3 => u4 a k q1 (by omega)⟩
  · rcases u5 with ⟨v1, v2⟩ | ⟨v1, v2⟩
    · rw [v1, show ξ 194 = χ 194 from funext v2]
      exact h.2.1
    · exact stg_o v1 hb (fun _ _ _ => rfl) m99 (fun _ _ _ => rfl) hr
  · rcases u5 with ⟨v1, v2⟩ | ⟨v1, v2⟩
    · rw [show ξ 194 = χ 194 from funext v2]
      exact h.2.2.2
    · exact v2
