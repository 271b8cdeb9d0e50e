/-! what would go on -/
noncomputable def TRI (φ χ : hf_F) : Prop := PLG 5 φ (χ 194) (χ 197) ∧ STG 43 φ (χ 194) (χ 194)
noncomputable def FT (χ ξ : hf_F) : Prop := ∀ a k : Nat, ¬ (a = 194 ∧ 99 ≤ k ∧ k < 180) → ξ a k = χ a k
noncomputable def F43 (φ ψ : hf_F) : Prop := ∀ a k : Nat, ¬ (43 ≤ a ∧ a ≤ 51) → ψ a k = φ a k
theorem ft_r (χ : hf_F) : FT χ χ := fun _ _ _ => rfl
theorem ft_t {φ χ ξ : hf_F} (h : FT φ χ) (h2 : FT χ ξ) : FT φ ξ := fun a k q => (h2 a k q).trans (h a k q)
theorem f43_r (χ : hf_F) : F43 χ χ := fun _ _ _ => rfl
theorem f43_t {φ χ ξ : hf_F} (h : F43 φ χ) (h2 : F43 χ ξ) : F43 φ ξ := fun a k q => (h2 a k q).trans (h a k q)
theorem tri_t {φ χ : hf_F} (hI : Inv χ) (h : TRI φ χ) : TRI (F_State_turn_43_5 φ) (F_RideLawsModel_tick_192 χ) ∧ F43 φ (F_State_turn_43_5 φ) ∧ FT χ (F_RideLawsModel_tick_192 χ) ∧ Inv (F_RideLawsModel_tick_192 χ) := by
  have hb := cb_i hI
  obtain ⟨t1, t2, t3, t4, t5⟩ := turn_43 hI h.1 h.2
  have hm : FT χ (F_RideLawsModel_tick_192 χ) := fun a k q => by
    by_cases ha : a = 194
    · rw [ha]
      exact t2 k (by omega)
    · exact t3 a k ha
  exact ⟨⟨plg_f h.1 hb (fun a k q => t4 a k (by omega)) (fun k q => hm 194 k (by omega)) (fun k q => hm 197 k (by omega)), t1⟩, fun a k q => t4 a k (by omega), hm, (K_F_RideLawsModel_tick_192 hI rfl).1⟩
theorem back_in (χ : hf_F) (k : Nat) (h1 : 99 ≤ k) (h2 : k < 180) : F_RideLawsModel_back_192 χ 194 k = χ 200 (k - 99) := by
  unfold F_RideLawsModel_back_192
  rw [hf_mp_in (by omega) (by omega), show 0 + (k - 99) = k - 99 by omega]
theorem back_o (χ : hf_F) : FT χ (F_RideLawsModel_back_192 χ) := fun a k q => hf_mp_ne (fun w => q (by omega))
theorem hold43 {φ χ : hf_F} (h : STG 43 φ (χ 194) (χ 194)) (l : Int) : (F_State_isHolding_43 φ l = 0) ↔ (F_RideLawsModel_bitOf χ (χ 194 102) l = 0) := by
  have e : φ 43 3 = χ 194 102 := h.1.1.2.2.2.1
  have hb := bit_e (φ := χ) (v := χ 194 102) (k := l)
  rw [hb]
  unfold F_State_isHolding_43
  rw [e]
  by_cases c : hb_and (hb_shr (χ 194 102) l) 1 = 0
  · rw [if_pos c]; exact ⟨fun _ => c, fun _ => rfl⟩
  · rw [if_neg c]; exact ⟨fun q => absurd q (by decide), fun q => absurd q c⟩
theorem hold17 {φ χ : hf_F} (h : STG 17 φ (χ 194) (χ 194)) (l : Int) : (F_State_isHolding_17 φ l = 0) ↔ (F_RideLawsModel_bitOf χ (χ 194 102) l = 0) := by
  have e : φ 17 3 = χ 194 102 := h.1.1.2.2.2.1
  have hb := bit_e (φ := χ) (v := χ 194 102) (k := l)
  rw [hb]
  unfold F_State_isHolding_17
  rw [e]
  by_cases c : hb_and (hb_shr (χ 194 102) l) 1 = 0
  · rw [if_pos c]; exact ⟨fun _ => c, fun _ => rfl⟩
  · rw [if_neg c]; exact ⟨fun q => absurd q (by decide), fun q => absurd q c⟩
theorem hin_l (law f most : Int) : ∀ (n m : Nat) (φ χ : hf_F) (i : Int), most + 1 - i < n → most + 1 - i < m → 1 ≤ i → i ≤ most + 1 → Inv χ → TRI φ χ →
    ∃ (z : Int) (ψ ξ : hf_F), F_Outlook_ticksTillTrialHolds_187_l2 n φ law most i = (z, ψ) ∧ F_RideLawsModel_holdsIn_192_l28 m χ law f most (-1) i = (z, F_RideLawsModel_back_192 ξ) ∧ FT χ ξ ∧ F43 φ ψ ∧ (z = -1 ∨ 0 ≤ z) := by
  intro n
  induction n with
  | zero => intro m φ χ i h1 h2 h3 h4; omega
  | succ n ih =>
    intro m φ χ i h1 h2 h3 h4 hI h
    obtain ⟨m, rfl⟩ : ∃ j, m = j + 1 := ⟨m - 1, by omega⟩
    rw [F_Outlook_ticksTillTrialHolds_187_l2_s, F_RideLawsModel_holdsIn_192_l28_s]
    by_cases c : most < i
    · rw [if_pos c, if_pos c, bnv_e rfl]
      exact ⟨-1, φ, χ, rfl, rfl, ft_r χ, f43_r φ, Or.inl rfl⟩
    · rw [if_neg c, if_neg c, if_neg (show ¬ (0 : Int) ≤ -1 by decide), bnv_e rfl, bnv_e rfl, bnp_e rfl, bnp_e rfl]
      obtain ⟨t1, t2, t3, t4⟩ := tri_t hI h
      have hh := hold43 t1.2 law
      by_cases c2 : F_State_isHolding_43 (F_State_turn_43_5 φ) law = 0
      · rw [if_pos c2, if_pos (hh.mp c2)]
        obtain ⟨z, ψ, ξ, i1, i2, i3, i4, i5⟩ := ih m _ _ (i + 1) (by omega) (by omega) (by omega) (by omega) t4 t1
        exact ⟨z, ψ, ξ, i1, i2, ft_t t3 i3, f43_t t2 i4, i5⟩
      · rw [if_neg c2, if_neg (fun q => c2 (hh.mpr q))]
        obtain ⟨m, rfl⟩ : ∃ j, m = j + 1 := ⟨m - 1, by omega⟩
        rw [F_RideLawsModel_holdsIn_192_l28_s]
        by_cases c3 : most < i + 1
        · rw [if_pos c3, bnv_e rfl]
          exact ⟨i, _, _, rfl, rfl, t3, t2, Or.inr (by omega)⟩
        · rw [if_neg c3, if_pos (show 0 ≤ i by omega), bnv_e rfl]
          exact ⟨i, _, _, rfl, rfl, t3, t2, Or.inr (by omega)⟩
/-- the model's state as it was -/
noncomputable def SAV (χ0 χ : hf_F) : Prop := (∀ k, k < 81 → χ 200 k = χ0 194 (99 + k)) ∧ ∀ a k, ¬ (a = 194 ∧ 99 ≤ k ∧ k < 180) → ¬ a = 200 → ¬ (a = 192 ∧ (k = 0 ∨ k = 23 ∨ k = 24 ∨ k = 29)) → χ a k = χ0 a k
theorem sav_f {χ0 χ ξ : hf_F} (h : SAV χ0 χ) (h2 : FT χ ξ) : SAV χ0 ξ := ⟨fun k hk => (h2 200 k (by omega)).trans (h.1 k hk), fun a k q1 q2 q3 => (h2 a k q1).trans (h.2 a k q1 q2 q3)⟩
theorem sav_b {χ0 χ : hf_F} (h : SAV χ0 χ) : CKM χ0 (F_RideLawsModel_back_192 χ) ∧ SAV χ0 (F_RideLawsModel_back_192 χ) := by
  have hs := sav_f h (back_o χ)
  refine ⟨⟨fun k hk => ?_, fun k _ => hs.2 197 k (by omega) (by omega) (by omega), fun k => hs.2 199 k (by omega) (by omega) (by omega), hs.2 192 22 (by omega) (by omega) (by omega)⟩, hs⟩
  by_cases c : 99 ≤ k
  · rw [back_in χ k c hk, h.1 (k - 99) (by omega), show 99 + (k - 99) = k by omega]
  · exact hs.2 194 k (by omega) (by omega) (by omega)
theorem tries_s (χ : hf_F) : SAV χ (F_RideLawsModel_tries_192 (hf_up χ 192 0 0)) ∧ ∀ k, F_RideLawsModel_tries_192 (hf_up χ 192 0 0) 194 k = χ 194 k := by
  unfold F_RideLawsModel_tries_192
  refine ⟨⟨fun k hk => ?_, fun a k q1 q2 q3 => ?_⟩, fun k => ?_⟩
  · rw [hf_mp_in (by omega) (by omega), show 99 + (k - 0) = 99 + k by omega]; rfl
  · rw [hf_mp_ne (fun w => q2 w.1), hf_up_ne (fun w => q3 ⟨w.1, Or.inl w.2⟩)]
  · rw [hf_mp_ne (fun w => absurd w.1 (by decide)), up_a (by decide)]
theorem tri_c {φ χ : hf_F} (hb : CB (χ 194)) (h : SCR φ χ) : TRI (F_State_copyFrom_43_17 φ) χ ∧ F43 φ (F_State_copyFrom_43_17 φ) := by
  have hc := cpy_43_17 φ
  have ho : F43 φ (F_State_copyFrom_43_17 φ) := fun a k q => hc.2.2.2.2.2.2.2.2.2 a k (by omega)
  have hbb := hb
  unfold CB at hbb
  exact ⟨⟨plg_f h.1 hb (fun a k q => ho a k (by omega)) (fun _ _ => rfl) (fun _ _ => rfl), stg_c (by omega) hc h.2.1⟩, ho⟩
theorem tri_m {φ χ ξ : hf_F} (hb : CB (χ 194)) (hr : SRB (χ 194)) (h : TRI φ χ) (h1 : ∀ k, k < 180 → ξ 194 k = χ 194 k) (h2 : ∀ k, k < 33 → ξ 197 k = χ 197 k) : TRI φ ξ :=
  ⟨plg_f h.1 hb (fun _ _ _ => rfl) (fun k q => h1 k (by omega)) h2, stg_o h.2 hb (fun _ _ _ => rfl) (fun k q => h1 k (by omega)) (fun k _ q => h1 k q) hr⟩
theorem scr_43 {φ ψ χ : hf_F} (hb : CB (χ 194)) (h : SCR φ χ) (h2 : F43 φ ψ) : SCR ψ χ := scr_f hb h (fun a k q => h2 a k (by omega)) rfl (fun _ => rfl) (fun _ _ => rfl) (fun _ _ => rfl)
theorem islaw_e (φ : hf_F) (v : Int) : F_RideLawsModel_isLaw_192 φ v = if 0 ≤ v ∧ v ≤ φ 194 4 - 1 then 1 else 0 := in_e2 v _ _
/-- the model's SENTENCE stays -/
noncomputable def C18 (χ ξ : hf_F) : Prop := ∀ k : Nat, 180 ≤ k → ξ 194 k = χ 194 k
theorem sav_18 {χ0 χ : hf_F} (h : SAV χ0 χ) : C18 χ0 χ := fun k hk => h.2 194 k (by omega) (by omega) (by omega)
theorem holds_rel {φ χ ψ ξ : hf_F} {v r s : Int} (hI : Inv χ) (h : SCR φ χ) (e1 : F_RideLaws_holds_0 φ v = (r, ψ)) (e2 : F_RideLawsModel_holds_192 χ v = (s, ξ)) : r = s ∧ SCR ψ ξ ∧ F43 φ ψ ∧ C18 χ ξ := by
  have hb := cb_i hI
  have hr := scr_srb hb h
  unfold F_RideLaws_holds_0 at e1
  unfold F_RideLawsModel_holds_192 at e2
  have k4 : φ 6 4 = χ 194 4 := h.1.1.2.2.2.2
  rw [bnp_e (has_e4 φ v), k4] at e1
  rw [bnp_e (islaw_e _ v), show hf_up χ 192 0 0 194 4 = χ 194 4 from rfl] at e2
  by_cases c : 0 ≤ v ∧ v < χ 194 4
  · rw [if_pos c, if_neg (by decide)] at e1
    rw [if_pos (show 0 ≤ v ∧ v ≤ χ 194 4 - 1 from ⟨c.1, by omega⟩), if_pos (by decide), bnv_e rfl] at e2
    obtain ⟨s1, s2⟩ := tries_s χ
    have hI1 : Inv (F_RideLawsModel_tries_192 (hf_up χ 192 0 0)) := (K_F_RideLawsModel_tries_192 (inv_0 hI) rfl).1
    generalize F_RideLawsModel_tries_192 (hf_up χ 192 0 0) = χ1 at e2 s1 s2 hI1
    have hh := hold17 (χ := χ1) (stg_o h.2.1 hb (fun _ _ _ => rfl) (fun k _ => s2 k) (fun k _ _ => s2 k) hr) v
    unfold F_RideLawsModel_holdsIn_192 at e2
    rw [if_neg (show ¬ ¬ (0 : Int) = 0 by decide), bnp_e rfl] at e2
    unfold F_Outlook_ticksToHold_187 at e1
    rw [bnp_e rfl] at e1
    by_cases c2 : F_State_isHolding_17 φ v = 0
    · rw [if_pos c2, bnv_e rfl] at e1
      rw [if_pos (hh.mp c2)] at e2
      obtain ⟨t1, t2⟩ := tri_c hb h
      have t3 : TRI (F_State_copyFrom_43_17 φ) χ1 := tri_m hb hr t1 (fun k _ => s2 k) (fun k _ => s1.2 197 k (by omega) (by omega) (by omega))
      obtain ⟨z, ψ1, ξ1, i1, i2, i3, i4, i5⟩ := hin_l v 0 300 ((301 - 1 : Int).toNat + 1) ((301 - 1 : Int).toNat + 1) (F_State_copyFrom_43_17 φ) χ1 1 (by decide) (by decide) (by decide) (by decide) hI1 t3
      have i1' : F_Outlook_ticksTillTrialHolds_187 (F_State_copyFrom_43_17 φ) v 300 = (z, ψ1) := i1
      rw [bnd_e (bnd_e i1')] at e1
      rw [bnd_e i2] at e2
      cases e1
      cases e2
      have f := f43_t t2 i4
      exact ⟨rfl, scr_m hb (scr_43 hb h f) (sav_b (sav_f s1 i3)).1, f, sav_18 (sav_b (sav_f s1 i3)).2⟩
    · rw [if_neg c2] at e1
      rw [if_neg (fun q => c2 (hh.mpr q)), show (301 - 1 : Int).toNat + 1 = 300 + 1 from rfl, F_RideLawsModel_holdsIn_192_l28_s, if_neg (show ¬ (300 : Int) < 1 by decide), if_pos (show (0 : Int) ≤ 0 by decide), bnv_e rfl] at e2
      cases e1
      cases e2
      exact ⟨rfl, scr_m hb h (sav_b s1).1, f43_r φ, sav_18 (sav_b s1).2⟩
  · rw [if_neg c, if_pos rfl] at e1
    rw [if_neg (show ¬ (0 ≤ v ∧ v ≤ χ 194 4 - 1) by omega), if_neg (by decide)] at e2
    cases e1
    cases e2
    exact ⟨rfl, scr_0 hb h, f43_r φ, fun _ _ => rfl⟩
