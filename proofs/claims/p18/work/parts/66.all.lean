/-! all, odds -/
theorem or0 {z : Int} (h : hi z) : hb_or z 0 = z := by
  have e : hb_or z 0 = jm_n z := by
    unfold hb_or jm_n
    rw [show Int32.ofInt 0 = 0 from rfl]
    simp
  rw [e, hi_n h]
theorem sil_l (w l2 l3 : Int) {φ χ : hf_F} (e3 : φ 6 3 = χ 194 3) (h3 : χ 194 3 ≤ 6) (h50 : ∀ r : Nat, r < 6 → φ 50 r = χ 194 (166 + r)) (h24 : ∀ r : Nat, r < 6 → φ 24 r = χ 200 (67 + r)) (K : hf_F → Int → Int → Int → Int × hf_F) :
    ∀ (n m : Nat) (bits r : Int), 6 - r < n → 6 - r < m → 0 ≤ r → r ≤ 6 → F_RideLawsModel_all_192_l93 K m χ bits l2 l3 r = if ¬ F_Outlook_stillSilent_187_l4 n φ w bits r = 0 then K χ (F_Outlook_stillSilent_187_l4 n φ w bits r) l2 (l3 + 1) else K χ (F_Outlook_stillSilent_187_l4 n φ w bits r) l3 (l3 + 1) := by
  intro n
  induction n with
  | zero => intro m bits r h1 h2 h3 h4; omega
  | succ n ih =>
    intro m bits r h1 h2 h4 h5
    obtain ⟨m, rfl⟩ : ∃ j, m = j + 1 := ⟨m - 1, by omega⟩
    rw [F_Outlook_stillSilent_187_l4_s, F_RideLawsModel_all_192_l93_s, e3]
    by_cases c : χ 194 3 ≤ r
    · rw [if_pos c, if_pos c]
    · rw [if_neg c, if_neg c, show (166 + r).toNat = 166 + r.toNat by omega, show (67 + r).toNat = 67 + r.toNat by omega, h50 r.toNat (by omega), h24 r.toNat (by omega)]
      by_cases c2 : jm_n (χ 194 (166 + r.toNat)) ≤ jm_n (χ 200 (67 + r.toNat))
      · rw [if_pos c2, if_pos c2]
        exact ih m bits (r + 1) (by omega) (by omega) (by omega) (by omega)
      · rw [if_neg c2, if_neg c2]
        exact ih m _ (r + 1) (by omega) (by omega) (by omega) (by omega)
theorem sil_0 (w : Int) {φ : hf_F} (h3 : φ 6 3 ≤ 6) (h50 : ∀ r : Nat, r < 6 → φ 50 r = φ 24 r) : ∀ (n : Nat) (bits r : Int), 6 - r < n → 0 ≤ r → r ≤ 6 → F_Outlook_stillSilent_187_l4 n φ w bits r = bits := by
  intro n
  induction n with
  | zero => intro bits r h1 h2 h3; omega
  | succ n ih =>
    intro bits r h1 h4 h5
    rw [F_Outlook_stillSilent_187_l4_s]
    by_cases c : φ 6 3 ≤ r
    · rw [if_pos c]
    · rw [if_neg c, h50 r.toNat (by omega), if_pos (Int.le_refl _)]
      exact ih bits (r + 1) (by omega) (by omega) (by omega)
theorem all_l : ∀ (n m : Nat) (φ χ : hf_F) (w i : Int), 301 - i < n → 301 - i < m → 1 ≤ i → i ≤ 301 → Inv χ → TRI φ χ → (∀ r : Nat, r < 6 → φ 24 r = χ 200 (67 + r)) →
    ∃ (z : Int) (ψ ξ : hf_F), F_Outlook_ticksTillAllSpoke_187_l67 n (F_State_turn_43_5 φ) w i = (z, ψ) ∧ F_RideLawsModel_all_192_l75 m χ w (-1) i = (z, F_RideLawsModel_back_192 ξ) ∧ FT χ ξ ∧ F43 φ ψ := by
  intro n
  induction n with
  | zero => intro m φ χ w i h1 h2 h3 h4; omega
  | succ n ih =>
    intro m φ χ w i h1 h2 h3 h4 hI h h24
    obtain ⟨m, rfl⟩ : ∃ j, m = j + 1 := ⟨m - 1, by omega⟩
    obtain ⟨t1, t2, t3, t4⟩ := tri_t hI h
    rw [F_Outlook_ticksTillAllSpoke_187_l67_s, F_RideLawsModel_all_192_l75_s]
    by_cases c : 300 < i
    · rw [if_pos c, if_pos c, bnv_e rfl]
      exact ⟨-1, _, χ, rfl, rfl, ft_r χ, t2⟩
    · rw [if_neg c, if_neg c, if_neg (show ¬ (0 : Int) ≤ -1 by decide), bnv_e rfl, bnp_e rfl]
      have hbb := cb_i t4
      unfold CB at hbb
      generalize F_RideLawsModel_tick_192 χ = χ1 at t1 t3 t4 hbb ⊢
      generalize F_State_turn_43_5 φ = φ1 at t1 t2 ⊢
      have g24 : ∀ r : Nat, r < 6 → φ1 24 r = χ1 200 (67 + r) := fun r hr => by rw [t2 24 r (by omega), t3 200 _ (by omega)]; exact h24 r hr
      have hs := sil_l w (-1) i (φ := φ1) (χ := χ1) t1.1.1.2.2.2.1 (by omega) (fun r hr => (t1.2.1.2.2.1 r hr).2.2.2.1) g24 (F_RideLawsModel_all_192_l75 m) ((6 - 0 : Int).toNat + 1) ((6 - 0 : Int).toNat + 1) w 0 (by decide) (by decide) (by decide) (by decide)
      rw [hs]
      have e : F_Outlook_stillSilent_187 φ1 w = F_Outlook_stillSilent_187_l4 ((6 - 0 : Int).toNat + 1) φ1 w w 0 := rfl
      rw [← e]
      by_cases c2 : F_Outlook_stillSilent_187 φ1 w = 0
      · rw [if_neg (fun q => q c2), if_neg (fun q => q c2)]
        obtain ⟨m, rfl⟩ : ∃ j, m = j + 1 := ⟨m - 1, by omega⟩
        rw [F_RideLawsModel_all_192_l75_s]
        by_cases c3 : 300 < i + 1
        · rw [if_pos c3, bnv_e rfl]
          exact ⟨i, _, χ1, rfl, rfl, t3, t2⟩
        · rw [if_neg c3, if_pos (show 0 ≤ i by omega), bnv_e rfl]
          exact ⟨i, _, χ1, rfl, rfl, t3, t2⟩
      · rw [if_pos c2, if_pos c2, bnv_e rfl]
        obtain ⟨z, ψ, ξ, i1, i2, i3, i4⟩ := ih m φ1 χ1 _ (i + 1) (by omega) (by omega) (by omega) (by omega) t4 t1 g24
        exact ⟨z, ψ, ξ, i1, i2, ft_t t3 i3, f43_t t2 i4⟩
theorem wait_l {φ χ : hf_F} (e3 : φ 6 3 = χ 194 3) (h3 : χ 194 3 ≤ 6) (hS : STG 17 φ (χ 194) (χ 194)) : ∀ (n m : Nat) (bits r : Int), 6 - r < n → 6 - r < m → 0 ≤ r → r ≤ 6 → hi bits →
    ∃ w : Int, F_Outlook_ticksTillAllSpoke_187_l4 n φ bits r = F_Outlook_ticksTillAllSpoke_187_l67 ((301 - 0 : Int).toNat + 1) (F_State_copyFrom_43_17 φ) w 0 ∧ F_RideLawsModel_all_192_l9 m χ bits r = if ¬ w = 0 then F_RideLawsModel_all_192_l75 ((301 - 1 : Int).toNat + 1) (F_RideLawsModel_tries_192 χ) w (-1) 1 else F_RideLawsModel_all_192_l75 ((301 - 1 : Int).toNat + 1) (F_RideLawsModel_tries_192 χ) w 0 1 := by
  intro n
  induction n with
  | zero => intro m bits r h1 h2 h3 h4; omega
  | succ n ih =>
    intro m bits r h1 h2 h4 h5 hh
    obtain ⟨m, rfl⟩ : ∃ j, m = j + 1 := ⟨m - 1, by omega⟩
    rw [F_Outlook_ticksTillAllSpoke_187_l4_s, F_RideLawsModel_all_192_l9_s, e3]
    by_cases c : χ 194 3 ≤ r
    · rw [if_pos c, if_pos c, bnv_e rfl, bnv_e rfl]
      exact ⟨bits, rfl, rfl⟩
    · rw [if_neg c, if_neg c, show (112 + r).toNat = 112 + r.toNat by omega, show (118 + r).toNat = 118 + r.toNat by omega, or0 hh]
      obtain ⟨x1, x2, _, _, _, ⟨x3, _⟩, _⟩ := hS.1.2.2.1 r.toNat (by omega)
      have x1' : φ 20 r.toNat = χ 194 (112 + r.toNat) - 1 := x1
      have x2' : φ 21 r.toNat = χ 194 (118 + r.toNat) := x2
      rw [x1', x2']
      by_cases c2 : χ 194 (112 + r.toNat) ≤ 0
      · rw [if_pos (show χ 194 (112 + r.toNat) - 1 = -1 by omega), if_pos c2]
        exact ih m bits (r + 1) (by omega) (by omega) (by omega) (by omega) hh
      · rw [if_neg (show ¬ χ 194 (112 + r.toNat) - 1 = -1 by omega), if_neg c2]
        by_cases c4 : χ 194 (118 + r.toNat) ≤ 0
        · rw [if_pos c4, if_pos c4]
          exact ih m bits (r + 1) (by omega) (by omega) (by omega) (by omega) hh
        · rw [if_neg c4, if_neg c4]
          exact ih m _ (r + 1) (by omega) (by omega) (by omega) (by omega) (hb_r32 _)
theorem all_rel {φ χ ψ ξ : hf_F} {r s : Int} (hI : Inv χ) (h : SCR φ χ) (e1 : F_RideLaws_all_0 φ = (r, ψ)) (e2 : F_RideLawsModel_all_192 χ = (s, ξ)) : r = s ∧ SCR ψ ξ ∧ F43 φ ψ ∧ C18 χ ξ := by
  have hb := cb_i hI
  have hr := scr_srb hb h
  have hbb := hb
  unfold CB at hbb
  have k3 : φ 6 3 = χ 194 3 := h.1.1.2.2.2.1
  obtain ⟨w, w1, w2⟩ := wait_l (φ := φ) (χ := hf_up χ 192 0 0) k3 (show χ 194 3 ≤ 6 by omega) (scr_0 hb h).2.1 ((6 - 0 : Int).toNat + 1) ((6 - 0 : Int).toNat + 1) 0 0 (by decide) (by decide) (by decide) (by decide) (by unfold hi; decide)
  have e1' : F_Outlook_ticksTillAllSpoke_187_l4 ((6 - 0 : Int).toNat + 1) φ 0 0 = (r, ψ) := e1
  have e2' : F_RideLawsModel_all_192_l9 ((6 - 0 : Int).toNat + 1) (hf_up χ 192 0 0) 0 0 = (s, ξ) := e2
  rw [w1] at e1'
  rw [w2] at e2'
  obtain ⟨s1, s2⟩ := tries_s χ
  have hI1 : Inv (F_RideLawsModel_tries_192 (hf_up χ 192 0 0)) := (K_F_RideLawsModel_tries_192 (inv_0 hI) rfl).1
  generalize F_RideLawsModel_tries_192 (hf_up χ 192 0 0) = χ1 at e2' s1 s2 hI1
  obtain ⟨t1, t2⟩ := tri_c hb h
  have hc := cpy_43_17 φ
  have t3 : TRI (F_State_copyFrom_43_17 φ) χ1 := tri_m hb hr t1 (fun k _ => s2 k) (fun k _ => s1.2 197 k (by omega) (by omega) (by omega))
  have g50 : ∀ q : Nat, q < 6 → F_State_copyFrom_43_17 φ 50 q = F_State_copyFrom_43_17 φ 24 q := fun q hq => by
    rw [hc.2.2.2.2.2.2.2.1 q hq, t2 24 q (by omega)]
  have g24 : ∀ q : Nat, q < 6 → F_State_copyFrom_43_17 φ 24 q = χ1 200 (67 + q) := fun q hq => by
    rw [t2 24 q (by omega), s1.1 (67 + q) (by omega), show 99 + (67 + q) = 166 + q by omega]
    exact (h.2.1.1.2.2.1 q hq).2.2.2.1
  have g63 : F_State_copyFrom_43_17 φ 6 3 ≤ 6 := by rw [t2 6 3 (by omega), k3]; omega
  generalize F_State_copyFrom_43_17 φ = φ1 at e1' t1 t2 t3 g50 g24 g63
  have hs0 : F_Outlook_stillSilent_187 φ1 w = w := sil_0 w g63 g50 ((6 - 0 : Int).toNat + 1) w 0 (by decide) (by decide) (by decide)
  rw [show (301 - 0 : Int).toNat + 1 = 301 + 1 from rfl, F_Outlook_ticksTillAllSpoke_187_l67_s, if_neg (show ¬ (300 : Int) < 0 by decide), bnp_e hs0] at e1'
  by_cases c : w = 0
  · rw [if_neg (fun q => q c)] at e1' e2'
    rw [show (301 - 1 : Int).toNat + 1 = 300 + 1 from rfl, F_RideLawsModel_all_192_l75_s, if_neg (show ¬ (300 : Int) < 1 by decide), if_pos (show (0 : Int) ≤ 0 by decide), bnv_e rfl] at e2'
    cases e1'
    cases e2'
    exact ⟨rfl, scr_m hb (scr_43 hb h t2) (sav_b s1).1, t2, sav_18 (sav_b s1).2⟩
  · rw [if_pos c] at e1' e2'
    rw [bnv_e rfl] at e1'
    obtain ⟨z, ψ2, ξ2, i1, i2, i3, i4⟩ := all_l 301 ((301 - 1 : Int).toNat + 1) φ1 χ1 w 1 (by decide) (by decide) (by decide) (by decide) hI1 t3 g24
    rw [show (0 : Int) + 1 = 1 from rfl, i1] at e1'
    rw [i2] at e2'
    cases e1'
    cases e2'
    have f := f43_t t2 i4
    exact ⟨rfl, scr_m hb (scr_43 hb h f) (sav_b (sav_f s1 i3)).1, f, sav_18 (sav_b (sav_f s1 i3)).2⟩
