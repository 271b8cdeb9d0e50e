/-! the lines of a BOOK lived -/
theorem whyw_43 {φ χ : hf_F} (h : STG 43 φ (χ 194) (χ 194)) : F_State_whyNotWhistle_43 φ = F_RideLawsModel_whyWhistle_192 χ := by
  obtain ⟨⟨⟨_, s2, s3, s4, _⟩, _⟩, _⟩ := h
  unfold F_State_whyNotWhistle_43 F_RideLawsModel_whyWhistle_192
  rw [s4, s2]
  by_cases c : χ 194 102 = 0
  · rw [if_neg (show ¬ ¬ χ 194 102 = 0 from fun q => q c), if_neg (show ¬ ¬ χ 194 102 = 0 from fun q => q c)]
    by_cases c2 : χ 194 100 = 0
    · rw [if_neg (show ¬ ¬ χ 194 100 - 1 = -1 by omega), if_neg (show ¬ ¬ χ 194 100 = 0 from fun q => q c2)]
    · rw [if_pos (show ¬ χ 194 100 - 1 = -1 by omega), if_pos (show ¬ χ 194 100 = 0 from c2)]
  · rw [if_pos (show ¬ χ 194 102 = 0 from c), if_pos (show ¬ χ 194 102 = 0 from c)]
theorem rol_z43 {φ χ : hf_F} (h : STG 43 φ (χ 194) (χ 194)) : ∀ r : Nat, r < 6 → χ 194 3 ≤ (r : Int) → χ 194 (112 + r) = 0 := fun r hr q => ((h.1.2.2.1 r hr).2.2.2.2.1 q).1
theorem whym_43 {φ χ : hf_F} (hc : χ 194 3 ≤ 6) (h : STG 43 φ (χ 194) (χ 194)) (r s : Nat) (hr : r < 6) (hs : s < 8) : F_State_whyNotMount_43 φ (r : Int) (s : Int) = F_RideLawsModel_whyMount_192 χ (r : Int) (s : Int) := by
  have hron := ron_43 hc h.1.2.1 (rol_z43 h) s hs
  obtain ⟨a1, _, _, _, _, ⟨b1, _⟩, _⟩ := h.1.2.2.1 r hr
  have a1' : φ 46 r = χ 194 (112 + r) - 1 := a1
  unfold F_State_whyNotMount_43 F_RideLawsModel_whyMount_192
  rw [show ((r : Int)).toNat = r by omega, show ((s : Int)).toNat = s by omega, show (112 + (r : Int)).toNat = 112 + r by omega, a1']
  by_cases c : χ 194 (112 + r) ≤ 0
  · rw [if_pos (show χ 194 (112 + r) - 1 = -1 by omega), if_pos c, bnp_e hron]
    rcases h.1.2.1 s hs with ⟨z1, _⟩ | ⟨q, _, z1, _⟩
    · have z1' : φ 45 s = -1 := z1
      rw [z1', if_pos rfl, if_pos (by decide)]
    · have z1' : φ 45 s = (q : Int) := z1
      rw [z1', if_neg (show ¬ (q : Int) = -1 by omega), if_neg (show ¬ (q : Int) < 0 by omega)]
  · rw [if_neg (show ¬ χ 194 (112 + r) - 1 = -1 by omega), if_neg c]
theorem whym_z43 {φ : hf_F} {r s : Int} (h : F_State_whyNotMount_43 φ r s = 0) : φ 46 r.toNat = -1 ∧ φ 45 s.toNat = -1 := by
  unfold F_State_whyNotMount_43 at h
  by_cases c : φ 46 r.toNat = -1
  · rw [if_pos c] at h
    by_cases c2 : φ 45 s.toNat = -1
    · exact ⟨c, c2⟩
    · rw [if_neg c2] at h
      omega
  · rw [if_neg c] at h
    omega
noncomputable def LIV (φ χ : hf_F) : Prop := PLG 5 φ (χ 194) (χ 197) ∧ STG 43 φ (χ 194) (χ 194) ∧ TKB (χ 194)
noncomputable def LST (φ χ : hf_F) (p q : Int × hf_F) : Prop := p.1 = q.1 ∧ LIV p.2 q.2 ∧ F43 φ p.2 ∧ FT χ q.2 ∧ (0 ≤ q.1 ∧ q.1 ≤ 50) ∧ Inv q.2 ∧ (¬ q.1 = 0 → q.2 = χ)
theorem lst_0 {φ χ : hf_F} {z : Int} (hI : Inv χ) (h : LIV φ χ) (h1 : 0 ≤ z) (h2 : z ≤ 50) : LST φ χ (z, φ) (z, χ) := ⟨rfl, h, f43_r φ, ft_r χ, ⟨h1, h2⟩, hI, fun _ => rfl⟩
theorem lst_s {φ χ ψ ξ : hf_F} (hI : Inv χ) (hI2 : Inv ξ) (h : LIV φ χ) (h1 : ∀ a k : Nat, ¬ (43 ≤ a ∧ a ≤ 51) → ψ a k = φ a k) (h2 : ∀ a k : Nat, ¬ (a = 194 ∧ 100 ≤ k ∧ k < 180) → ξ a k = χ a k) (h3 : ∀ k, ψ 44 k = φ 44 k) (h4 : ∀ k, 104 ≤ k → k < 112 → ξ 194 k = χ 194 k) (h5 : ∀ k, 166 ≤ k → k < 172 → ξ 194 k = χ 194 k) (hs : STN 43 ψ (χ 194) (ξ 194)) : LST φ χ (0, ψ) (0, ξ) := by
  have hb := cb_i hI
  have hr : SRB (χ 194) := srb_s hb h.1.2.2.2.1
  refine ⟨rfl, ⟨plg_f h.1 hb (fun a k q => h1 a k (by omega)) (fun k q => h2 194 k (by omega)) (fun k q => h2 197 k (by omega)), stg_o ⟨hs, atg_f hb h.2.1.2 h3 h4⟩ hb (fun _ _ _ => rfl) (fun k q => h2 194 k (by omega)) (fun _ _ _ => rfl) hr, ?_⟩, fun a k q => h1 a k q, fun a k q => h2 a k (by omega), ⟨Int.le_refl 0, show (0 : Int) ≤ 50 by decide⟩, hI2, fun q => absurd rfl q⟩
  refine tkb_g h.2.2 (fun k q => ?_)
  rcases q with rfl | q
  · exact h2 194 99 (by omega)
  · exact h5 k q.1 q.2
theorem does_0 {φ χ : hf_F} {r s : Nat} (hI : Inv χ) (h : LIV φ χ) (hr : (r : Int) < χ 194 3) (hs : (s : Int) < χ 194 1) : LST φ χ (F_BookText_liveMount_43 φ (r : Int) (s : Int)) (F_RideLawsModel_does_192 χ 0 (r : Int) (s : Int)) := by
  have hb := cb_i hI
  have hbb := hb
  unfold CB at hbb
  have hw := whym_43 (by omega) h.2.1 r s (by omega) (by omega)
  have hz := K_F_RideLawsModel_whyMount_192 hI (v1 := (r : Int)) (v2 := (s : Int)) (by omega) (by omega) (by omega) (by omega) rfl
  unfold F_BookText_liveMount_43 F_RideLawsModel_does_192
  rw [if_pos rfl, bnp_e hw, bnp_e rfl]
  by_cases c : F_RideLawsModel_whyMount_192 χ (r : Int) (s : Int) = 0
  · obtain ⟨z1, z2⟩ := whym_z43 (hw.trans c)
    rw [show ((r : Int)).toNat = r by omega] at z1
    rw [show ((s : Int)).toNat = s by omega] at z2
    have hmm : ∀ k, hf_up χ 194 (112 + r) ((s : Int) + 1) 194 k = if k = 112 + r then (s : Int) + 1 else χ 194 k := fun k => by
      by_cases c4 : k = 112 + r
      · rw [if_pos c4, c4, hf_up_eq]
      · rw [if_neg c4, up_k c4]
    obtain ⟨s1, s2⟩ := sit_43 (c := χ 194) (r := r) (s := s) (by omega) (by omega) hr hs h.2.1.1 z1 z2 hmm
    have hI2 : Inv (hf_up χ 194 (112 + (r : Int)).toNat ((s : Int) + 1)) := iv_upI (s := 112) (t := 118) (lo := 0) (u := 8) (z := 112 + (r : Int)) hI (by decide +kernel) (by omega) (by omega) (by omega) (by omega)
    rw [c, show (112 + (r : Int)).toNat = 112 + r by omega] at *
    simp only [not_true, if_false, if_true, Int.le_refl]
    exact lst_s hI hI2 h (fun a k q => s2 a k (by omega)) (fun a k q => hf_up_ne (by omega)) (fun k => s2 44 k (by decide)) (fun k q1 q2 => up_k (by omega)) (fun k q1 q2 => up_k (by omega)) s1
  · simp only [c, not_false_eq_true, if_true, if_false, show ¬ F_RideLawsModel_whyMount_192 χ (r : Int) (s : Int) ≤ 0 by omega]
    rw [show (10 * 0 + F_RideLawsModel_whyMount_192 χ (r : Int) (s : Int)) = F_RideLawsModel_whyMount_192 χ (r : Int) (s : Int) by omega]
    exact lst_0 hI h hz.1 (by omega)
theorem does_1 {φ χ : hf_F} {r : Nat} {w : Int} (hI : Inv χ) (h : LIV φ χ) (hr : (r : Int) < χ 194 3) : LST φ χ (bnp (F_State_whyNotAlight_43 φ (r : Int)) (fun z8 => (if z8 = 0 then (bnv (F_State_getOff_43 φ (r : Int)) (fun ψ11 => (0, ψ11))) else (bnp (F_State_whyNotAlight_43 φ (r : Int)) (fun z14 => (10 + z14, φ)))))) (F_RideLawsModel_does_192 χ 1 (r : Int) w) := by
  have hb := cb_i hI
  have hbb := hb
  unfold CB at hbb
  have hrl := h.2.1.1.2.2.1 r (by omega)
  have ha : φ 46 r = χ 194 (112 + r) - 1 := hrl.1
  have hI2 : Inv (hf_up χ 194 (112 + (r : Int)).toNat 0) := iv_upI (s := 112) (t := 118) (lo := 0) (u := 8) (z := 112 + (r : Int)) hI (by decide +kernel) (by omega) (by omega) (by omega) (by omega)
  have e112 : (112 + (r : Int)).toNat = 112 + r := by omega
  have er : ((r : Int)).toNat = r := by omega
  unfold F_RideLawsModel_does_192
  rw [if_neg (show ¬ (1 : Int) = 0 by decide), if_pos (show (1 : Int) = 1 from rfl), e112]
  rw [e112] at hI2
  by_cases c : χ 194 (112 + r) = 0
  · have hw : F_State_whyNotAlight_43 φ (r : Int) = 1 := by
      unfold F_State_whyNotAlight_43
      rw [er, if_neg (show ¬ ¬ φ 46 r = -1 by omega)]
    rw [bnp_e hw, bnp_e hw, if_neg (show ¬ (1 : Int) = 0 by decide), if_neg (show ¬ ¬ χ 194 (112 + r) = 0 from fun q => q c)]
    have hup : hf_up χ 194 (112 + r) 0 = χ := by
      funext a k
      by_cases c4 : a = 194 ∧ k = 112 + r
      · rw [c4.1, c4.2, hf_up_eq, c]
      · rw [hf_up_ne c4]
    rw [hup]
    exact lst_0 hI h (by decide) (by decide)
  · have hw : F_State_whyNotAlight_43 φ (r : Int) = 0 := by
      unfold F_State_whyNotAlight_43
      rw [er, if_pos (show ¬ φ 46 r = -1 by omega)]
    rw [bnp_e hw, if_pos (show (0 : Int) = 0 from rfl), bnv_e rfl, if_pos (show ¬ χ 194 (112 + r) = 0 from c)]
    have hmm : ∀ k, hf_up χ 194 (112 + r) 0 194 k = if k = 112 + r then 0 else χ 194 k := fun k => by
      by_cases c4 : k = 112 + r
      · rw [if_pos c4, c4, hf_up_eq]
      · rw [if_neg c4, up_k c4]
    obtain ⟨s1, s2⟩ := off_43 (c := χ 194) (r := r) (by omega) (by omega) h.2.1.1 (by omega) hmm
    exact lst_s hI hI2 h (fun a k q => s2 a k (by omega)) (fun a k q => hf_up_ne (by omega)) (fun k => s2 44 k (by decide)) (fun k q1 q2 => up_k (by omega)) (fun k q1 q2 => up_k (by omega)) s1
theorem does_2 {φ χ : hf_F} {r w : Nat} (hI : Inv χ) (h : LIV φ χ) (hr : (r : Int) < χ 194 3) (hw2 : (w : Int) < χ 194 2) : LST φ χ (bnp (F_State_whyNotLearn_43 φ (r : Int)) (fun z17 => (if z17 = 0 then (bnv (F_State_addWord_43 φ (r : Int) (w : Int)) (fun ψ21 => (0, ψ21))) else (bnp (F_State_whyNotLearn_43 φ (r : Int)) (fun z24 => (20 + z24, φ)))))) (F_RideLawsModel_does_192 χ 2 (r : Int) (w : Int)) := by
  have hb := cb_i hI
  have hbb := hb
  unfold CB at hbb
  have hrl := h.2.1.1.2.2.1 r (by omega)
  have ha : φ 47 r = χ 194 (118 + r) := hrl.2.1
  have hr6 : 0 ≤ χ 194 (118 + r) ∧ χ 194 (118 + r) ≤ 6 := hrl.2.2.2.2.2.2.1
  have e118 : (118 + (r : Int)).toNat = 118 + r := by omega
  have er : ((r : Int)).toNat = r := by omega
  unfold F_RideLawsModel_does_192
  rw [if_neg (show ¬ (2 : Int) = 0 by decide), if_neg (show ¬ (2 : Int) = 1 by decide), if_pos (show (2 : Int) = 2 from rfl)]
  by_cases c3 : χ 194 (118 + r) = 6
  · have hw : F_State_whyNotLearn_43 φ (r : Int) = 1 := by
      unfold F_State_whyNotLearn_43
      rw [er, if_neg (show ¬ φ 47 r < 6 by omega)]
    have hwm : F_RideLawsModel_whyLearn_192 χ (r : Int) = 1 := by
      unfold F_RideLawsModel_whyLearn_192
      rw [e118]
      exact if_neg (fun q => q c3)
    rw [bnp_e hw, bnp_e hw, bnp_e hwm, if_neg (show ¬ (1 : Int) = 0 by decide), if_pos (show ¬ (1 : Int) = 0 by decide), if_neg (show ¬ (1 : Int) ≤ 0 by decide)]
    exact lst_0 hI h (by decide) (by decide)
  · have hw : F_State_whyNotLearn_43 φ (r : Int) = 0 := by
      unfold F_State_whyNotLearn_43
      rw [er, if_pos (show φ 47 r < 6 by omega)]
    have hwm : F_RideLawsModel_whyLearn_192 χ (r : Int) = 0 := by
      unfold F_RideLawsModel_whyLearn_192
      rw [e118]
      exact if_pos c3
    rw [bnp_e hw, bnp_e hwm, if_pos (show (0 : Int) = 0 from rfl), if_neg (show ¬ ¬ (0 : Int) = 0 by decide), bnv_e rfl, bnv_e rfl, if_pos (show (0 : Int) ≤ 0 by decide)]
    obtain ⟨b1, b2⟩ := learns_f (χ := χ) (r := r) (w := (w : Int)) (by omega) (by omega)
    obtain ⟨s1, s2⟩ := lrn_43 (c := χ 194) (r := r) (w := w) (by omega) hr hw2 h.2.1.1 (by omega) b1
    have hne : ∀ k, ¬ (118 ≤ k ∧ k < 160) → F_RideLawsModel_learns_192 χ (r : Int) (w : Int) 194 k = χ 194 k := fun k q => by
      rw [b1, if_neg (show ¬ k = 118 + r by omega), if_neg (show ¬ k = 124 + 6 * r + (χ 194 (118 + r)).toNat by omega)]
    refine lst_s hI (K_F_RideLawsModel_learns_192 hI (by omega) (by omega) (by omega) (by omega) (by rw [e118]; omega) rfl).1 h (fun a k q => s2 a k (by omega)) (fun a k q => ?_) (fun k => s2 44 k (by decide)) (fun k q1 q2 => hne k (by omega)) (fun k q1 q2 => hne k (by omega)) s1
    by_cases ha : a = 194
    · rw [ha] at q ⊢
      exact hne k (by omega)
    · exact b2 a k ha
theorem does_3 {φ χ : hf_F} {u v : Int} (hI : Inv χ) (h : LIV φ χ) : LST φ χ (bnp (F_State_whyNotWhistle_43 φ) (fun z26 => (if z26 = 0 then (bnv (F_State_blow_43 φ) (fun ψ28 => (0, ψ28))) else (bnp (F_State_whyNotWhistle_43 φ) (fun z30 => (30 + z30, φ)))))) (F_RideLawsModel_does_192 χ 3 u v) := by
  have hb := cb_i hI
  have hbb := hb
  unfold CB at hbb
  have hw := whyw_43 h.2.1
  have hz := K_F_RideLawsModel_whyWhistle_192 hI rfl
  unfold F_RideLawsModel_does_192
  rw [if_neg (show ¬ (3 : Int) = 0 by decide), if_neg (show ¬ (3 : Int) = 1 by decide), if_neg (show ¬ (3 : Int) = 2 by decide), if_pos (show (3 : Int) = 3 from rfl)]
  by_cases c : F_RideLawsModel_whyWhistle_192 χ = 0
  · rw [bnp_e (hw.trans c), bnp_e c, if_pos (show (0 : Int) = 0 from rfl), if_neg (show ¬ ¬ (0 : Int) = 0 by decide), bnv_e rfl, bnv_e rfl, if_pos (show (0 : Int) ≤ 0 by decide)]
    obtain ⟨b1, b2⟩ := blows_f χ
    obtain ⟨w1, w2⟩ := blw_43 (by omega) h.2.1.1 b1
    refine lst_s hI (K_F_RideLawsModel_blows_192 hI rfl).1 h (fun a k q => w2 a k (by omega)) (fun a k q => ?_) (fun k => w2 44 k (by decide)) (fun k q1 q2 => ?_) (fun k q1 q2 => ?_) w1
    · by_cases ha : a = 194
      · rw [ha] at q ⊢
        rw [b1, if_neg (by omega), if_neg (by omega), if_neg (by omega)]
      · exact b2 a k ha
    · rw [b1, if_neg (by omega), if_neg (by omega), if_neg (by omega)]
    · rw [b1, if_neg (by omega), if_neg (by omega), if_neg (by omega)]
  · have c1 : F_RideLawsModel_whyWhistle_192 χ = 1 := by omega
    rw [bnp_e (hw.trans c1), bnp_e (hw.trans c1), bnp_e c1, if_neg (show ¬ (1 : Int) = 0 by decide), if_pos (show ¬ (1 : Int) = 0 by decide), if_neg (show ¬ (1 : Int) ≤ 0 by decide)]
    exact lst_0 hI h (by decide) (by decide)
theorem lvt_l (v : Int) (hv : v ≤ 60) : ∀ (n k : Nat) (φ χ : hf_F) (l : Int), v - l < n → v - l < k → 0 ≤ l → l ≤ v → Inv χ → LIV φ χ → χ 194 99 + (v - l) ≤ 1000 →
    ∃ ψ ξ : hf_F, F_BookText_liveTicks_183_43_l13 n φ v l = (0, ψ) ∧ F_RideLawsModel_goesOn_192_l2 k χ v l = (v, ξ) ∧ LIV ψ ξ ∧ F43 φ ψ ∧ FT χ ξ ∧ Inv ξ := by
  intro n
  induction n with
  | zero => intro k φ χ l h1 h2 h3 h4; omega
  | succ n ih =>
    intro k φ χ l h1 h2 h3 h4 hI h h6
    obtain ⟨k, rfl⟩ : ∃ j, k = j + 1 := ⟨k - 1, by omega⟩
    have hT := h.2.2
    unfold TKB at hT
    rw [F_BookText_liveTicks_183_43_l13_s, F_RideLawsModel_goesOn_192_l2_s, show jm_n (χ 194 99) = χ 194 99 from hi_n (by unfold hi; omega)]
    by_cases c : v ≤ l
    · rw [if_pos c, if_pos c, show l = v by omega]
      exact ⟨φ, χ, rfl, rfl, h, f43_r φ, ft_r χ, hI⟩
    · rw [if_neg c, if_neg c, if_neg (show ¬ 1000 ≤ χ 194 99 by omega), bnv_e rfl, bnv_e rfl]
      obtain ⟨t1, t2, t3, t4⟩ := tri_t hI ⟨h.1, h.2.1⟩
      have t5 := (turn_43 hI h.1 h.2.1).2.2.2.2
      obtain ⟨ψ, ξ, i1, i2, i3, i4, i5, i6⟩ := ih k (F_State_turn_43_5 φ) (F_RideLawsModel_tick_192 χ) (l + 1) (by omega) (by omega) (by omega) (by omega) t4 ⟨t1.1, t1.2, tkb_s (cb_i hI) (srb_s (cb_i hI) h.1.2.2.2.1) h.2.2 (by omega) t5⟩ (by omega)
      exact ⟨ψ, ξ, i1, i2, i3, f43_t t2 i4, ft_t t3 i5, i6⟩
theorem does_4 {φ χ : hf_F} {v u : Int} (hI : Inv χ) (h : LIV φ χ) (h1 : 1 ≤ v) (h2 : v ≤ 60) : LST φ χ (F_BookText_liveTicks_183_43 φ v) (F_RideLawsModel_does_192 χ 4 v u) := by
  have hT := h.2.2
  unfold TKB at hT
  have e99 : φ 43 0 = χ 194 99 := h.2.1.1.1.1
  unfold F_BookText_liveTicks_183_43 F_RideLawsModel_does_192
  have hl : F_State_ticksLeft_43 φ = 1000 - χ 194 99 := by
    unfold F_State_ticksLeft_43
    rw [e99, show jm_n (1000 - χ 194 99) = 1000 - χ 194 99 from hi_n (by unfold hi; omega), show jm_n 0 = 0 from hi_n (by unfold hi; omega)]
    by_cases c2 : 0 < 1000 - χ 194 99
    · rw [if_pos c2]
    · rw [if_neg c2]; omega
  rw [bnp_e hl, show jm_n (1000 - χ 194 99) = 1000 - χ 194 99 from hi_n (by unfold hi; omega), if_neg (show ¬ (4 : Int) = 0 by decide), if_neg (show ¬ (4 : Int) = 1 by decide), if_neg (show ¬ (4 : Int) = 2 by decide), if_neg (show ¬ (4 : Int) = 3 by decide), show jm_n (χ 194 99 + v) = χ 194 99 + v from hi_n (by unfold hi; omega)]
  by_cases c : v ≤ 1000 - χ 194 99
  · rw [if_pos c, if_pos (show χ 194 99 + v ≤ 1000 by omega)]
    obtain ⟨ψ, ξ, i1, i2, i3, i4, i5, i6⟩ := lvt_l v h2 ((60 - 0 : Int).toNat + 1) ((8214 - 0 : Int).toNat + 1) φ χ 0 (by omega) (by omega) (by decide) (by omega) hI h (by omega)
    have i2' : F_RideLawsModel_goesOn_192 χ v = (v, ξ) := i2
    rw [i1, bnd_e i2']
    exact ⟨rfl, i3, i4, i5, ⟨Int.le_refl 0, show (0 : Int) ≤ 50 by decide⟩, i6, fun q => absurd rfl q⟩
  · rw [if_neg c, if_neg (show ¬ χ 194 99 + v ≤ 1000 by omega)]
    exact lst_0 hI h (by decide) (by decide)
