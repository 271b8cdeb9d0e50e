/-! odds and sentence leave the RIDE as it is -/
theorem odds_l (law nn seed : Int) {χ0 φ : hf_F} : ∀ (m : Nat) (χ ξ : hf_F) (l4 l5 s : Int), nn - l5 < m → SCR φ χ → SAV χ0 χ → (∀ k, k < 180 → χ 194 k = χ0 194 k) → Inv χ → F_RideLawsModel_odds_192_l35 m χ law nn seed l4 l5 = (s, ξ) → CKM χ0 ξ ∧ C18 χ0 ξ := by
  intro m
  induction m with
  | zero =>
    intro χ ξ l4 l5 s h1 h h2 h3 hI e
    cases e
    exact ⟨⟨h3, fun k _ => h2.2 197 k (by omega) (by omega) (by omega), fun k => h2.2 199 k (by omega) (by omega) (by omega), h2.2 192 22 (by omega) (by omega) (by omega)⟩, sav_18 h2⟩
  | succ m ih =>
    intro χ ξ l4 l5 s h1 h h2 h3 hI e
    rw [F_RideLawsModel_odds_192_l35_s] at e
    by_cases c : nn ≤ l5
    · rw [if_pos c] at e
      cases e
      exact ⟨⟨h3, fun k _ => h2.2 197 k (by omega) (by omega) (by omega), fun k => h2.2 199 k (by omega) (by omega) (by omega), h2.2 192 22 (by omega) (by omega) (by omega)⟩, sav_18 h2⟩
    · rw [if_neg c] at e
      obtain ⟨z3, ψ3, g3⟩ : ∃ a b, F_RideLawsModel_draws_192 χ 30 (seed + l5) = (a, b) := ⟨_, _, rfl⟩
      rw [bnd_e g3, bnv_e rfl] at e
      have k3 := K_F_RideLawsModel_draws_192 hI (by decide) (by decide) g3
      have hT := h.2.2.2
      unfold TKB at hT
      have hb := cb_i hI
      have hx : ∃ g : Int, g ≤ 30 ∧ 0 ≤ g ∧ χ 194 99 + g ≤ 1000 ∧ (g = 30 ∨ χ 194 99 + g = 1000) := by
        by_cases c2 : 1000 - χ 194 99 < 30
        · exact ⟨1000 - χ 194 99, by omega⟩
        · exact ⟨30, by omega⟩
      obtain ⟨g, hg1, hg2, hg3, hg4⟩ := hx
      obtain ⟨ψ2, ξ2, i1, i2, i3, i4, i5⟩ := drawn_l 30 (seed + l5) g (by decide) 61 ((60 - 0 : Int).toNat + 1) (hf_up φ 188 0 (seed + l5)) (hf_up χ 192 29 (seed + l5)) 0 (by omega) (by omega) (by decide) hg2 hg1 (K_seed hI _) (seed_r hb h _) rfl (by show χ 194 99 + (g - 0) ≤ 1000; omega) (by show g = 30 ∨ χ 194 99 + (g - 0) = 1000; omega)
      have i2' : F_RideLawsModel_draws_192 χ 30 (seed + l5) = (g, ξ2) := i2
      rw [g3] at i2'
      have e3 : ψ3 = ξ2 := congrArg Prod.snd i2'
      have sv : SAV χ0 ψ3 := by
        rw [e3] at k3 ⊢
        refine ⟨fun k hk => ?_, fun a k q1 q2 q3 => ?_⟩
        · rw [i5 200 k (by omega) (by omega) (by omega) (by omega), up_a (by decide)]
          exact h2.1 k hk
        · by_cases c9 : a = 199
          · rw [c9, fr_at k3.2.1 199 (by decide) k]
            exact h2.2 199 k (by omega) (by omega) (by omega)
          · by_cases c22 : a = 192 ∧ k = 22
            · rw [c22.1, c22.2, fr_fd k3.2.1 192 22 (by decide)]
              exact h2.2 192 22 (by omega) (by omega) (by omega)
            · rw [i5 a k q1 c9 (by omega) (by omega), hf_up_ne (by omega)]
              exact h2.2 a k q1 q2 q3
      obtain ⟨b1, b2⟩ := sav_b sv
      have hIb := (K_F_RideLawsModel_back_192 k3.1 rfl).1
      have b4 : CKM χ (F_RideLawsModel_back_192 ψ3) := ⟨fun k hk => (b1.1 k hk).trans (h3 k hk).symm, fun k hk => (b1.2.1 k hk).trans (h2.2 197 k (by omega) (by omega) (by omega)).symm, fun k => (b1.2.2.1 k).trans (h2.2 199 k (by omega) (by omega) (by omega)).symm, b1.2.2.2.trans (h2.2 192 22 (by omega) (by omega) (by omega)).symm⟩
      exact ih _ ξ _ (l5 + 1) s (by omega) (scr_m hb h b4) b2 b1.1 hIb e
theorem odds_m {φ χ ξ : hf_F} {v1 v2 v3 s : Int} (hI : Inv χ) (h : SCR φ χ) (e2 : F_RideLawsModel_odds_192 χ v1 v2 v3 = (s, ξ)) : CKM χ ξ ∧ C18 χ ξ := by
  have hb := cb_i hI
  have h00 : CKM χ (hf_up χ 192 0 0) ∧ C18 χ (hf_up χ 192 0 0) := ⟨⟨fun _ _ => rfl, fun _ _ => rfl, fun _ => rfl, rfl⟩, fun _ _ => rfl⟩
  unfold F_RideLawsModel_odds_192 at e2
  rw [bnp_e (islaw_e _ v1)] at e2
  by_cases c : 0 ≤ v1 ∧ v1 ≤ hf_up χ 192 0 0 194 4 - 1
  · rw [if_pos c, if_neg (by decide), bnp_e (isin_e _ v2 _ _)] at e2
    by_cases c2 : 1 ≤ v2 ∧ v2 ≤ 30
    · rw [if_pos c2, if_pos (by decide), bnv_e rfl] at e2
      obtain ⟨s1, s2⟩ := tries_s χ
      have hI1 : Inv (F_RideLawsModel_tries_192 (hf_up χ 192 0 0)) := (K_F_RideLawsModel_tries_192 (inv_0 hI) rfl).1
      generalize F_RideLawsModel_tries_192 (hf_up χ 192 0 0) = χ1 at e2 s1 s2 hI1
      exact odds_l v1 v2 v3 _ χ1 ξ 0 0 s (by omega) (scr_m hb h ⟨fun k _ => s2 k, fun k _ => s1.2 197 k (by omega) (by omega) (by omega), fun k => s1.2 199 k (by omega) (by omega) (by omega), s1.2 192 22 (by omega) (by omega) (by omega)⟩) s1 (fun k _ => s2 k) hI1 e2
    · rw [if_neg c2, if_neg (by decide)] at e2
      cases e2
      exact h00
  · rw [if_neg c, if_pos rfl] at e2
    cases e2
    exact h00
theorem code_a {a : Nat} (ha : ¬ a = 192) (hb : ¬ a = 196) (φ : hf_F) (u v w : Int) (k : Nat) : F_RideLawsModel_code_192 φ u v w a k = φ a k := by
  unfold F_RideLawsModel_code_192
  simp only [up_a ha, up_a hb]
theorem notsl_a {a : Nat} (ha : ¬ a = 192) (hb : ¬ a = 196) : ∀ (n : Nat) (φ : hf_F) (k : Nat), F_RideLawsModel_nots_192_l0 n φ a k = φ a k := by
  intro n
  induction n with
  | zero => intro φ k; rfl
  | succ n ih =>
    intro φ k
    rw [F_RideLawsModel_nots_192_l0_s]
    unfold bnv
    simp only [ite_a, ih, code_a ha hb, up_a ha, ite_self]
theorem nots_a {a : Nat} (ha : ¬ a = 192) (hb : ¬ a = 196) (φ : hf_F) (k : Nat) : F_RideLawsModel_nots_192 φ a k = φ a k := by
  unfold F_RideLawsModel_nots_192
  unfold bnv
  simp only [ite_a, notsl_a ha hb, code_a ha hb, up_a ha, ite_self]
theorem joinsl_a {a : Nat} (ha : ¬ a = 192) (hb : ¬ a = 196) : ∀ (n : Nat) (φ : hf_F) (l : Int) (k : Nat), F_RideLawsModel_joins_192_l0 n φ l a k = φ a k := by
  intro n
  induction n with
  | zero => intro φ l k; rfl
  | succ n ih =>
    intro φ l k
    rw [F_RideLawsModel_joins_192_l0_s]
    unfold bnv
    simp only [ite_a, ih, code_a ha hb, up_a ha, ite_self]
theorem joins_a {a : Nat} (ha : ¬ a = 192) (hb : ¬ a = 196) (φ : hf_F) (l : Int) (k : Nat) : F_RideLawsModel_joins_192 φ l a k = φ a k := by
  unfold F_RideLawsModel_joins_192
  unfold bnv
  simp only [ite_a, joinsl_a ha hb, code_a ha hb, up_a ha, ite_self]
theorem operand_a {a : Nat} (ha : ¬ a = 192) (hb : ¬ a = 196) (hc : ¬ a = 203) (φ : hf_F) (k : Nat) : (F_RideLawsModel_operand_192 φ).2 a k = φ a k := by
  unfold F_RideLawsModel_operand_192
  unfold bnp bnd bnv
  simp only [ite_2, ite_a, bad_a ha, next_a ha, takes_a ha, looks_a ha, takesn_a ha, sign_a ha, code_a ha hb, up_a ha, up_a hc, ite_self]
theorem behind_a {a : Nat} (ha : ¬ a = 192) (hb : ¬ a = 196) (hc : ¬ a = 203) (φ : hf_F) (k : Nat) : (F_RideLawsModel_behind_192 φ).2 a k = φ a k := by
  unfold F_RideLawsModel_behind_192
  unfold bnp bnd bnv
  simp only [ite_2, ite_a, bad_a ha, next_a ha, nots_a ha hb, joins_a ha hb, up_a ha, up_a hc, ite_self]
theorem sentl_a {k : Nat} (hk : k < 180) : ∀ (n : Nat) (φ : hf_F) (l : Int), (F_RideLawsModel_sentence_192_l48 n φ l).2 194 k = φ 194 k := by
  have ha : ¬ 194 = 192 := by decide
  have hb : ¬ 194 = 196 := by decide
  have hc : ¬ 194 = 203 := by decide
  have h1 : ∀ (φ : hf_F) (n : Nat) (g : Nat → Int), hf_mp φ 194 181 n g 194 k = φ 194 k := fun φ n g => hf_mp_ne (fun q => by omega)
  have h2 : ∀ (φ : hf_F) (v : Int), hf_up φ 194 180 v 194 k = φ 194 k := fun φ v => up_k (by omega)
  intro n
  induction n with
  | zero => intro φ l; rfl
  | succ n ih =>
    intro φ l
    rw [F_RideLawsModel_sentence_192_l48_s]
    unfold bnd bnv
    simp only [ite_2, ite_a, ih, bad_a ha, operand_a ha hb hc, behind_a ha hb hc, nots_a ha hb, joins_a ha hb, h1, h2, ite_self]
theorem sent_m {χ ξ : hf_F} {s : Int} (hI : Inv χ) (e : F_RideLawsModel_sentence_192 χ = (s, ξ)) : CKM χ ξ := by
  have ks := K_F_RideLawsModel_sentence_192 hI e
  refine ⟨fun k hk => ?_, fun k _ => fr_at ks.2.1 197 (by decide) k, fun k => fr_at ks.2.1 199 (by decide) k, fr_fd ks.2.1 192 22 (by decide)⟩
  unfold F_RideLawsModel_sentence_192 at e
  rw [bnv_e rfl, bnv_e rfl] at e
  have h2 := congrArg (fun p : Int × hf_F => p.2 194 k) e
  dsimp only at h2
  rw [sentl_a hk, next_a (by decide)] at h2
  exact h2.symm
