/-! stand, standing -/
theorem bct_i : ∀ (n : Nat) (χ : hf_F) (a b c : Int), F_RideLawsModel_bits_l4 n χ a b c = F_RideLawsModel_bits_l4 n (fun _ _ => 0) 0 b c := by
  intro n
  induction n with
  | zero => intro χ a b c; rfl
  | succ n ih =>
    intro χ a b c
    rw [F_RideLawsModel_bits_l4_s, F_RideLawsModel_bits_l4_s]
    by_cases h : c = 0
    · rw [if_pos h, if_pos h]
    · rw [if_neg h, if_neg h]
      exact ih χ a (b + 1) _
theorem bct_0 : ∀ i : Fin 256, F_java_lang_Integer_bitCount (fun _ _ => 0) (i.1 : Int) = F_RideLawsModel_bits_l4 ((i.1 : Int).toNat + 1) (fun _ _ => 0) 0 0 (i.1 : Int) := by decide +kernel
theorem bct_e {v : Int} (φ χ : hf_F) (h0 : 0 ≤ v) (h1 : v < 256) : F_java_lang_Integer_bitCount φ v = F_RideLawsModel_bits χ v := by
  have h := bct_0 ⟨v.toNat, by omega⟩
  dsimp only at h
  rw [show ((v.toNat : Nat) : Int) = v by omega] at h
  have e : F_java_lang_Integer_bitCount φ v = F_java_lang_Integer_bitCount (fun _ _ => 0) v := rfl
  rw [e, h]
  exact (bct_i _ χ v 0 v).symm
theorem pea_0 (K : hf_F → Int → Int → Int × hf_F) {χ : hf_F} {b s l : Int} (n : Nat) : F_RideLawsModel_stand_192_l41 K (n + 1) χ b s 0 l = K χ b (s + 1) := by
  rw [F_RideLawsModel_stand_192_l41_s]
  by_cases c : χ 194 4 ≤ l
  · rw [if_pos c, if_pos rfl]
  · rw [if_neg c, if_pos rfl, if_pos rfl]
theorem pea_l (K : hf_F → Int → Int → Int × hf_F) {φ χ : hf_F} {b s : Int} (e4 : φ 6 4 = χ 194 4) (h4 : χ 194 4 ≤ 8) (hc : ∀ i : Nat, i < 8 → φ 15 i = χ 194 (91 + i)) :
    ∀ (n m : Nat) (l : Int), 8 - l < n → 8 - l < m → 0 ≤ l → l ≤ 8 → F_RideLawsModel_stand_192_l41 K n χ b s 1 l = if F_Outlook_isPeaceful_187_l2 m φ s l = 0 then K χ b (s + 1) else K χ s (s + 1) := by
  intro n
  induction n with
  | zero => intro m l h1 h2 h3 h5; omega
  | succ n ih =>
    intro m l h1 h2 h3 h5
    obtain ⟨m, rfl⟩ : ∃ j, m = j + 1 := ⟨m - 1, by omega⟩
    have bs := bit_e (φ := χ) (v := s) (k := l)
    rw [F_Outlook_isPeaceful_187_l2_s, F_RideLawsModel_stand_192_l41_s, e4]
    by_cases c : χ 194 4 ≤ l
    · rw [if_pos c, if_pos c, if_neg (show ¬ (1 : Int) = 0 by decide)]
    · rw [if_neg c, if_neg c, if_neg (show ¬ (1 : Int) = 0 by decide), bnp_e rfl, hc l.toNat (by omega), show (91 + l).toNat = 91 + l.toNat by omega]
      by_cases c2 : hb_and (hb_shr s l) 1 = 0
      · rw [if_pos (show F_RideLawsModel_bitOf χ s l = 0 by rw [bs]; exact c2), if_pos c2]
        exact ih m (l + 1) (by omega) (by omega) (by omega) (by omega)
      · rw [if_neg (show ¬ F_RideLawsModel_bitOf χ s l = 0 by rw [bs]; exact c2), if_neg c2]
        by_cases c3 : hb_and (χ 194 (91 + l.toNat)) s = 0
        · rw [if_neg (show ¬ ¬ hb_and (χ 194 (91 + l.toNat)) s = 0 from fun q => q c3), if_pos c3]
          exact ih m (l + 1) (by omega) (by omega) (by omega) (by omega)
        · rw [if_pos (show ¬ hb_and (χ 194 (91 + l.toNat)) s = 0 from c3), if_neg c3, if_pos (show (0 : Int) = 0 from rfl)]
          obtain ⟨n, rfl⟩ : ∃ j, n = j + 1 := ⟨n - 1, by omega⟩
          exact pea_0 K n
theorem shl_r8 {n : Int} (h0 : 0 ≤ n) (h8 : n ≤ 8) : 1 ≤ hb_shl 1 n ∧ hb_shl 1 n ≤ 256 := hr_shl1 n h0 h8
theorem std_l {φ χ : hf_F} (e4 : φ 6 4 = χ 194 4) (h40 : 0 ≤ χ 194 4) (h4 : χ 194 4 ≤ 8) (hc : ∀ i : Nat, i < 8 → φ 15 i = χ 194 (91 + i)) :
    ∀ (n m : Nat) (b s : Int), 256 - s < n → 256 - s < m → 1 ≤ s → s ≤ hb_shl 1 (χ 194 4) → 0 ≤ b → b < 256 → 0 ≤ F_Outlook_lawsInPeace_187_l4 n φ b s ∧ F_Outlook_lawsInPeace_187_l4 n φ b s < 256 ∧
      F_RideLawsModel_stand_192_l9 m χ b s = (F_RideLawsModel_bits χ (F_Outlook_lawsInPeace_187_l4 n φ b s), hf_up (hf_up χ 192 26 1) 192 25 (F_Outlook_lawsInPeace_187_l4 n φ b s)) := by
  have hsh := shl_r8 h40 h4
  intro n
  induction n with
  | zero => intro m b s h1 h2 h3 h5; omega
  | succ n ih =>
    intro m b s h1 h2 h3 h5 h6 h7
    obtain ⟨m, rfl⟩ : ∃ j, m = j + 1 := ⟨m - 1, by omega⟩
    rw [F_Outlook_lawsInPeace_187_l4_s, F_RideLawsModel_stand_192_l9_s, e4]
    by_cases c : hb_shl 1 (χ 194 4) ≤ s
    · rw [if_pos c, if_pos c, bnp_e rfl]
      refine ⟨h6, h7, ?_⟩
      rw [← bct_e φ _ h6 h7, ← bct_e φ _ h6 h7]
    · rw [if_neg c, if_neg c, bnp_e (bct_e φ χ (by omega) (by omega)), bnp_e (bct_e φ χ h6 h7), bnp_e rfl, bnp_e rfl, bnp_e rfl]
      by_cases c2 : jm_n (F_RideLawsModel_bits χ s) ≤ jm_n (F_RideLawsModel_bits χ b)
      · rw [if_pos c2, if_pos c2, show ((8 - 0 : Int).toNat + 1) = 8 + 1 from rfl, pea_0]
        exact ih m b (s + 1) (by omega) (by omega) (by omega) (by omega) h6 h7
      · rw [if_neg c2, if_neg c2, pea_l (F_RideLawsModel_stand_192_l9 m) e4 h4 hc ((8 - 0 : Int).toNat + 1) ((8 - 0 : Int).toNat + 1) 0 (by decide) (by decide) (by decide) (by decide)]
        have e : F_Outlook_isPeaceful_187 φ s = F_Outlook_isPeaceful_187_l2 ((8 - 0 : Int).toNat + 1) φ s 0 := rfl
        rw [← e]
        by_cases c3 : F_Outlook_isPeaceful_187 φ s = 0
        · rw [if_pos c3, if_pos c3]
          exact ih m b (s + 1) (by omega) (by omega) (by omega) (by omega) h6 h7
        · rw [if_neg c3, if_neg c3]
          exact ih m s (s + 1) (by omega) (by omega) (by omega) (by omega) (by omega) (by omega)
/-- which stand, by the latest stand -/
noncomputable def SDR (φ χ : hf_F) : Prop := (χ 192 26 = 0 ∧ φ 0 14 = -1) ∨ (¬ χ 192 26 = 0 ∧ φ 0 14 = χ 192 25)
theorem sdr_f {φ χ φ' χ' : hf_F} (h : SDR φ χ) (h1 : φ' 0 14 = φ 0 14) (h2 : χ' 192 25 = χ 192 25) (h3 : χ' 192 26 = χ 192 26) : SDR φ' χ' := by
  unfold SDR at h ⊢
  rw [h1, h2, h3]
  exact h
theorem stand_rel {φ χ ψ ξ : hf_F} {r s : Int} (hI : Inv χ) (h : SCR φ χ) (e1 : F_RideLaws_stand_0 φ = (r, ψ)) (e2 : F_RideLawsModel_stand_192 χ = (s, ξ)) : r = s ∧ SDR ψ ξ := by
  have h0 := scr_0 (cb_i hI) h
  have hI0 := inv_0 hI
  unfold F_RideLaws_stand_0 at e1
  unfold F_RideLawsModel_stand_192 at e2
  generalize hf_up χ 192 0 0 = χ0 at e2 h0 hI0
  have hbb := cb_i hI0
  unfold CB at hbb
  have hsh := shl_r8 (n := χ0 194 4) (by omega) (by omega)
  obtain ⟨l1, l2, l3⟩ := std_l (φ := φ) (χ := χ0) h0.1.1.2.2.2.2 (by omega) (by omega) (fun i q => h0.1.2.2.2.2.2.2 i q) ((256 - 1 : Int).toNat + 1) ((256 - 1 : Int).toNat + 1) 0 1 (by decide) (by decide) (by decide) (by omega) (by decide) (by decide)
  have e : F_Outlook_lawsInPeace_187 φ = F_Outlook_lawsInPeace_187_l4 ((256 - 1 : Int).toNat + 1) φ 0 1 := rfl
  rw [← e] at l1 l2 l3
  rw [bnp_e rfl, bnp_e (bct_e _ χ0 l1 l2)] at e1
  rw [l3] at e2
  cases e1
  cases e2
  refine ⟨rfl, Or.inr ⟨?_, ?_⟩⟩
  · rw [hf_up_ne (fun w => absurd w.2 (by decide)), hf_up_eq]
    decide
  · rw [hf_up_eq, hf_up_eq]
theorem standing_q {φ χ ξ : hf_F} {r s : Int} (h : SDR φ χ) (e1 : F_RideLaws_standing_0 φ = r) (e2 : F_RideLawsModel_standing_192 χ = (s, ξ)) : r = s := by
  unfold F_RideLaws_standing_0 at e1
  unfold F_RideLawsModel_standing_192 at e2
  rcases h with ⟨h1, h2⟩ | ⟨h1, h2⟩
  · rw [if_pos h1] at e2
    cases e2
    omega
  · rw [if_neg h1] at e2
    cases e2
    omega
