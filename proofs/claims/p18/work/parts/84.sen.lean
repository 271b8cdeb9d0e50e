/-! a SENTENCE: its codes and what waits, of both -/
noncomputable def SKM (k : Int) : Int := if 15 ≤ k then k - 15 else 34 - k
noncomputable def SKP (φ χ : hf_F) (i : Nat) : Prop := χ 196 (3 * i) = SKM (φ 53 i) ∧ χ 196 (3 * i + 1) = φ 54 i ∧ χ 196 (3 * i + 2) = φ 55 i
noncomputable def SKE (φ : hf_F) (i : Nat) (c : Int) : Prop := φ 53 i = c ∧ φ 54 i = 0 ∧ φ 55 i = 0
/-- the class's codes are the model's, then k 'not', a 'and', l 'or' -/
noncomputable def SCD (φ χ : hf_F) (k a l : Nat) : Prop := φ 52 3 = χ 192 34 + (k : Int) + (a : Int) + (l : Int) ∧ 0 ≤ χ 192 34 ∧ (∀ i : Nat, (i : Int) < χ 192 34 → SKP φ χ i) ∧ (∀ j : Nat, j < k → SKE φ ((χ 192 34).toNat + j) 14) ∧ (∀ j : Nat, j < a → SKE φ ((χ 192 34).toNat + k + j) 13) ∧ ∀ j : Nat, j < l → SKE φ ((χ 192 34).toNat + k + a + j) 12
noncomputable def SLI (χ : hf_F) : Prop := SIw χ (χ 192 38) ∧ χ 192 34 + χ 192 36 + χ 192 38 ≤ 2 * χ 192 35
/-- behind an operand: w 'or', a 'and', k 'not' wait above the place T of the stack -/
noncomputable def SDN (φ χ : hf_F) (T w a k l : Nat) (d : Int) : Prop := RP φ χ ∧ PLG 5 φ (χ 194) (χ 197) ∧ SLI χ ∧ χ 192 38 = 1 ∧ χ 192 36 = (T : Int) + (w : Int) + (a : Int) + (k : Int) ∧ χ 192 37 = d + (k : Int) ∧ φ 52 4 = χ 192 35 ∧ SCD φ χ k a l ∧ (w = 1 → χ 203 T = 22) ∧ (a = 1 → χ 203 (T + w) = 21) ∧ ∀ j : Nat, j < k → χ 203 (T + w + a + j) = 20
/-- ahead of one -/
noncomputable def SEX (φ χ : hf_F) (T : Nat) (d : Int) : Prop := RP φ χ ∧ PLG 5 φ (χ 194) (χ 197) ∧ SLI χ ∧ χ 192 38 = 0 ∧ χ 192 36 = (T : Int) ∧ χ 192 37 = d ∧ φ 52 4 = χ 192 35 ∧ SCD φ χ 0 0 0
noncomputable def SBT (χ : hf_F) (T : Nat) : Prop := T = 0 ∨ χ 203 (T - 1) = 23
noncomputable def SLW (χ ξ : hf_F) (T : Nat) : Prop := ∀ j : Nat, j < T → ξ 203 j = χ 203 j
noncomputable def SMM (χ : hf_F) : Int := 3 * (21 - χ 192 35) + χ 192 36 + 2 * χ 192 38
theorem slw_t {χ ζ ξ : hf_F} {T U : Nat} (h : SLW χ ζ T) (h2 : SLW ζ ξ U) (hU : T ≤ U) : SLW χ ξ T := fun j hj => (h2 j (by omega)).trans (h j hj)
theorem sbt_w {χ ξ : hf_F} {T : Nat} (h : SBT χ T) (h2 : SLW χ ξ T) : SBT ξ T := by
  rcases h with h | h
  · exact Or.inl h
  · by_cases c : T = 0
    · exact Or.inl c
    · exact Or.inr (by rw [h2 (T - 1) (by omega)]; exact h)
theorem cod_f {χ : hf_F} (u v w : Int) (h0 : 0 ≤ χ 192 34) : F_RideLawsModel_code_192 χ u v w 192 34 = χ 192 34 + 1 ∧ F_RideLawsModel_code_192 χ u v w 196 (3 * (χ 192 34).toNat) = u ∧ F_RideLawsModel_code_192 χ u v w 196 (3 * (χ 192 34).toNat + 1) = v ∧ F_RideLawsModel_code_192 χ u v w 196 (3 * (χ 192 34).toNat + 2) = w ∧
    (∀ i : Nat, i < 3 * (χ 192 34).toNat → F_RideLawsModel_code_192 χ u v w 196 i = χ 196 i) ∧ ∀ a k : Nat, ¬ a = 196 → ¬ (a = 192 ∧ k = 34) → F_RideLawsModel_code_192 χ u v w a k = χ a k := by
  unfold F_RideLawsModel_code_192
  rw [show (3 * χ 192 34).toNat = 3 * (χ 192 34).toNat by omega, show (3 * χ 192 34 + 1).toNat = 3 * (χ 192 34).toNat + 1 by omega, show (3 * χ 192 34 + 2).toNat = 3 * (χ 192 34).toNat + 2 by omega]
  refine ⟨hf_up_eq, ?_, ?_, ?_, fun i hi => ?_, fun a k h1 h2 => ?_⟩
  · rw [up_a (by decide), up_k (by omega), up_k (by omega), hf_up_eq]
  · rw [up_a (by decide), up_k (by omega), hf_up_eq]
  · rw [up_a (by decide), hf_up_eq]
  · rw [up_a (by decide), up_k (by omega), up_k (by omega), up_k (by omega)]
  · rw [hf_up_ne h2, up_a h1, up_a h1, up_a h1]
/-- one waiting word of the stack goes -/
noncomputable def POP1 (c : Int) (χ ξ : hf_F) : Prop := ξ 192 36 = χ 192 36 - 1 ∧ ξ 192 34 = χ 192 34 + 1 ∧ (ξ 196 (3 * (χ 192 34).toNat) = c ∧ ξ 196 (3 * (χ 192 34).toNat + 1) = 0 ∧ ξ 196 (3 * (χ 192 34).toNat + 2) = 0) ∧ (∀ i : Nat, i < 3 * (χ 192 34).toNat → ξ 196 i = χ 196 i) ∧ ∀ a k : Nat, ¬ a = 196 → ¬ (a = 192 ∧ (k = 34 ∨ k = 36)) → ξ a k = χ a k
theorem pop_e {χ : hf_F} (c : Int) (h0 : 0 ≤ χ 192 34) : POP1 c χ (F_RideLawsModel_code_192 (hf_up χ 192 36 (χ 192 36 - 1)) c 0 0) := by
  have e34 : hf_up χ 192 36 (χ 192 36 - 1) 192 34 = χ 192 34 := hf_up_ne (by omega)
  obtain ⟨q1, q2, q3, q4, q5, q6⟩ := cod_f (χ := hf_up χ 192 36 (χ 192 36 - 1)) c 0 0 (by rw [e34]; exact h0)
  rw [e34] at q1 q2 q3 q4 q5
  refine ⟨?_, q1, ⟨q2, q3, q4⟩, fun i hi => ?_, fun a k h1 h2 => ?_⟩
  · rw [q6 192 36 (by decide) (by omega), hf_up_eq]
  · rw [q5 i hi, up_a (by decide)]
  · rw [q6 a k h1 (by omega), hf_up_ne (by omega)]
/-- all 'not' at the top go -/
noncomputable def NTS (B k : Nat) (χ ξ : hf_F) : Prop := ξ 192 36 = (B : Int) ∧ ξ 192 37 = χ 192 37 - (k : Int) ∧ ξ 192 34 = χ 192 34 + (k : Int) ∧ (∀ i : Nat, i < 3 * (χ 192 34).toNat → ξ 196 i = χ 196 i) ∧ (∀ j : Nat, j < k → ξ 196 (3 * ((χ 192 34).toNat + j)) = 20 ∧ ξ 196 (3 * ((χ 192 34).toNat + j) + 1) = 0 ∧ ξ 196 (3 * ((χ 192 34).toNat + j) + 2) = 0) ∧ ∀ a q : Nat, ¬ a = 196 → ¬ (a = 192 ∧ (q = 34 ∨ q = 36 ∨ q = 37)) → ξ a q = χ a q
theorem nts_l : ∀ (k n B : Nat) (χ : hf_F), χ 192 36 < (n : Int) → χ 192 36 = (B : Int) + (k : Int) → 0 ≤ χ 192 34 → (∀ j : Nat, j < k → χ 203 (B + j) = 20) → (B = 0 ∨ ¬ χ 203 (B - 1) = 20) → NTS B k χ (F_RideLawsModel_nots_192_l0 n χ) := by
  intro k
  induction k with
  | zero =>
    intro n B χ h1 h2 h3 h4 h5
    obtain ⟨n, rfl⟩ : ∃ j, n = j + 1 := ⟨n - 1, by omega⟩
    have hr : F_RideLawsModel_nots_192_l0 (n + 1) χ = χ := by
      rw [F_RideLawsModel_nots_192_l0_s]
      by_cases c : χ 192 36 ≤ 0
      · rw [if_pos c]
      · rw [if_neg c, show (χ 192 36 - 1).toNat = B - 1 by omega, if_pos (show ¬ χ 203 (B - 1) = 20 from h5.resolve_left (by omega))]
    rw [hr]
    exact ⟨by omega, by omega, by omega, fun _ _ => rfl, fun j hj => by omega, fun _ _ _ _ => rfl⟩
  | succ k ih =>
    intro n B χ h1 h2 h3 h4 h5
    obtain ⟨n, rfl⟩ : ∃ j, n = j + 1 := ⟨n - 1, by omega⟩
    have ht : χ 203 (B + k) = 20 := h4 k (by omega)
    rw [F_RideLawsModel_nots_192_l0_s, if_neg (show ¬ χ 192 36 ≤ 0 by omega), show (χ 192 36 - 1).toNat = B + k by omega, if_neg (show ¬ ¬ χ 203 (B + k) = 20 from fun q => q ht), bnv_e rfl]
    have e34 : hf_up (hf_up χ 192 36 (χ 192 36 - 1)) 192 37 (χ 192 37 - 1) 192 34 = χ 192 34 := by rw [hf_up_ne (by omega), hf_up_ne (by omega)]
    obtain ⟨q1, q2, q3, q4, q5, q6⟩ := cod_f (χ := hf_up (hf_up χ 192 36 (χ 192 36 - 1)) 192 37 (χ 192 37 - 1)) 20 0 0 (by rw [e34]; exact h3)
    rw [e34] at q1 q2 q3 q4 q5
    generalize hX : F_RideLawsModel_code_192 (hf_up (hf_up χ 192 36 (χ 192 36 - 1)) 192 37 (χ 192 37 - 1)) 20 0 0 = ζ at q1 q2 q3 q4 q5 q6
    have f36 : ζ 192 36 = χ 192 36 - 1 := by rw [q6 192 36 (by decide) (by omega), hf_up_ne (by omega), hf_up_eq]
    have f37 : ζ 192 37 = χ 192 37 - 1 := by rw [q6 192 37 (by decide) (by omega), hf_up_eq]
    have fo : ∀ a q : Nat, ¬ a = 196 → ¬ (a = 192 ∧ (q = 34 ∨ q = 36 ∨ q = 37)) → ζ a q = χ a q := fun a q g1 g2 => by rw [q6 a q g1 (by omega), hf_up_ne (by omega), hf_up_ne (by omega)]
    obtain ⟨r1, r2, r3, r4, r5, r6⟩ := ih n B ζ (by omega) (by omega) (by omega) (fun j hj => by rw [fo 203 _ (by decide) (by omega)]; exact h4 j (by omega)) (by
      rcases h5 with h5 | h5
      · exact Or.inl h5
      · exact Or.inr (by rw [fo 203 _ (by decide) (by omega)]; exact h5))
    have e0 : (ζ 192 34).toNat = (χ 192 34).toNat + 1 := by omega
    rw [e0] at r4 r5
    refine ⟨r1, by omega, by omega, fun i hi => ?_, fun j hj => ?_, fun a q g1 g2 => (r6 a q g1 g2).trans (fo a q g1 g2)⟩
    · rw [r4 i (by omega), q5 i hi, up_a (by decide), up_a (by decide)]
    · by_cases cj : j = 0
      · rw [cj, Nat.add_zero, r4 _ (by omega), r4 _ (by omega), r4 _ (by omega)]
        exact ⟨q2, q3, q4⟩
      · have := r5 (j - 1) (by omega)
        rw [show (χ 192 34).toNat + 1 + (j - 1) = (χ 192 34).toNat + j by omega] at this
        exact this
theorem cod_36 (χ : hf_F) (u v w : Int) : F_RideLawsModel_code_192 χ u v w 192 36 = χ 192 36 := by
  unfold F_RideLawsModel_code_192
  rw [hf_up_ne (by omega), up_a (by decide), up_a (by decide), up_a (by decide)]
theorem nts_0 (χ : hf_F) : F_RideLawsModel_nots_192 χ = F_RideLawsModel_nots_192_l0 ((χ 192 36).toNat + 1) χ := by
  rw [F_RideLawsModel_nots_192_l0_s]
  unfold F_RideLawsModel_nots_192
  by_cases c : χ 192 36 ≤ 0
  · rw [if_pos c, if_pos c]
  · rw [if_neg c, if_neg c]
    by_cases c2 : χ 203 (χ 192 36 - 1).toNat = 20
    · rw [if_neg (show ¬ ¬ χ 203 (χ 192 36 - 1).toNat = 20 from fun q => q c2), if_neg (show ¬ ¬ χ 203 (χ 192 36 - 1).toNat = 20 from fun q => q c2), bnv_e rfl, bnv_e rfl]
      have e : F_RideLawsModel_code_192 (hf_up (hf_up χ 192 36 (χ 192 36 - 1)) 192 37 (χ 192 37 - 1)) 20 0 0 192 36 = χ 192 36 - 1 := by
        rw [cod_36, hf_up_ne (by omega), hf_up_eq]
      rw [e, show (χ 192 36 - 1).toNat + 1 = (χ 192 36).toNat by omega]
    · rw [if_pos (show ¬ χ 203 (χ 192 36 - 1).toNat = 20 from c2), if_pos (show ¬ χ 203 (χ 192 36 - 1).toNat = 20 from c2)]
theorem jn_0 (χ : hf_F) (t : Int) : F_RideLawsModel_joins_192 χ t = F_RideLawsModel_joins_192_l0 ((χ 192 36).toNat + 1) χ t := by
  rw [F_RideLawsModel_joins_192_l0_s]
  unfold F_RideLawsModel_joins_192
  by_cases c : χ 192 36 ≤ 0
  · rw [if_pos c, if_pos c]
  · rw [if_neg c, if_neg c]
    simp only [bnv]
    rw [cod_36, hf_up_eq, show (χ 192 36 - 1).toNat + 1 = (χ 192 36).toNat by omega]
theorem jn_s {n : Nat} {χ : hf_F} {t : Int} (h : χ 192 36 ≤ 0 ∨ ¬ (χ 203 (χ 192 36 - 1).toNat = 21 ∨ (χ 203 (χ 192 36 - 1).toNat = 22 ∧ t = 22))) : F_RideLawsModel_joins_192_l0 n χ t = χ := by
  cases n with
  | zero => rfl
  | succ n =>
    rw [F_RideLawsModel_joins_192_l0_s]
    by_cases c : χ 192 36 ≤ 0
    · rw [if_pos c]
    · have h := h.resolve_left c
      rw [if_neg c, if_neg (show ¬ χ 203 (χ 192 36 - 1).toNat = 21 from fun q => h (Or.inl q))]
      by_cases c2 : χ 203 (χ 192 36 - 1).toNat = 22
      · rw [if_neg (show ¬ ¬ χ 203 (χ 192 36 - 1).toNat = 22 from fun q => q c2), if_pos (show ¬ t = 22 from fun q => h (Or.inr ⟨c2, q⟩))]
      · rw [if_pos (show ¬ χ 203 (χ 192 36 - 1).toNat = 22 from c2)]
theorem jn_p {n : Nat} {χ : hf_F} {t c : Int} (h0 : 0 < χ 192 36) (hc : χ 203 (χ 192 36 - 1).toNat = c) (h : c = 21 ∨ (c = 22 ∧ t = 22)) : F_RideLawsModel_joins_192_l0 (n + 1) χ t = F_RideLawsModel_joins_192_l0 n (F_RideLawsModel_code_192 (hf_up χ 192 36 (χ 192 36 - 1)) c 0 0) t := by
  rw [F_RideLawsModel_joins_192_l0_s, if_neg (show ¬ χ 192 36 ≤ 0 by omega), hc]
  rcases h with h | ⟨h, h2⟩
  · rw [if_pos h, bnv_e rfl]
  · rw [if_neg (show ¬ c = 21 by omega), if_neg (show ¬ ¬ c = 22 from fun q => q h), if_neg (show ¬ ¬ t = 22 from fun q => q h2), bnv_e rfl]
/-- the codes: what both hold when waiting words go -/
theorem scd_n {φ χ ξ : hf_F} {B k a l : Nat} (h : SCD φ χ k a l) (hN : NTS B k χ ξ) : SCD φ ξ 0 a l := by
  obtain ⟨a1, a2, a3, a4, a5, a6⟩ := h
  obtain ⟨_, _, n3, n4, n5, _⟩ := hN
  have e0 : (ξ 192 34).toNat = (χ 192 34).toNat + k := by omega
  refine ⟨by omega, by omega, fun i hi => ?_, fun j hj => by omega, fun j hj => ?_, fun j hj => ?_⟩
  · by_cases c : (i : Int) < χ 192 34
    · have := a3 i c
      unfold SKP at this ⊢
      rw [n4 _ (by omega), n4 _ (by omega), n4 _ (by omega)]
      exact this
    · have h1 := n5 (i - (χ 192 34).toNat) (by omega)
      have h2 := a4 (i - (χ 192 34).toNat) (by omega)
      rw [show (χ 192 34).toNat + (i - (χ 192 34).toNat) = i by omega] at h1 h2
      obtain ⟨h3, h4, h5⟩ := h2
      unfold SKP
      rw [h3, h4, h5]
      exact h1
  · have := a5 j hj
    rw [e0, Nat.add_zero]
    exact this
  · have := a6 j hj
    rw [e0, Nat.add_zero]
    exact this
theorem scd_a {φ χ ξ : hf_F} {l : Nat} (h : SCD φ χ 0 1 l) (hN : POP1 21 χ ξ) : SCD φ ξ 0 0 l := by
  obtain ⟨a1, a2, a3, a4, a5, a6⟩ := h
  obtain ⟨_, n3, n5, n4, _⟩ := hN
  have e0 : (ξ 192 34).toNat = (χ 192 34).toNat + 1 := by omega
  refine ⟨by omega, by omega, fun i hi => ?_, fun j hj => by omega, fun j hj => by omega, fun j hj => ?_⟩
  · by_cases c : (i : Int) < χ 192 34
    · have := a3 i c
      unfold SKP at this ⊢
      rw [n4 _ (by omega), n4 _ (by omega), n4 _ (by omega)]
      exact this
    · have h2 := a5 0 (by omega)
      rw [show (χ 192 34).toNat + 0 + 0 = i by omega] at h2
      rw [show (χ 192 34).toNat = i by omega] at n5
      obtain ⟨h3, h4, h5⟩ := h2
      unfold SKP
      rw [h3, h4, h5]
      exact n5
  · have := a6 j hj
    rw [show (χ 192 34).toNat + 0 + 1 + j = (ξ 192 34).toNat + 0 + 0 + j by omega] at this
    exact this
theorem scd_o {φ χ ξ : hf_F} (h : SCD φ χ 0 0 1) (hN : POP1 22 χ ξ) : SCD φ ξ 0 0 0 := by
  obtain ⟨a1, a2, a3, a4, a5, a6⟩ := h
  obtain ⟨_, n3, n5, n4, _⟩ := hN
  refine ⟨by omega, by omega, fun i hi => ?_, fun j hj => by omega, fun j hj => by omega, fun j hj => by omega⟩
  by_cases c : (i : Int) < χ 192 34
  · have := a3 i c
    unfold SKP at this ⊢
    rw [n4 _ (by omega), n4 _ (by omega), n4 _ (by omega)]
    exact this
  · have h2 := a6 0 (by omega)
    rw [show (χ 192 34).toNat + 0 + 0 + 0 = i by omega] at h2
    rw [show (χ 192 34).toNat = i by omega] at n5
    obtain ⟨h3, h4, h5⟩ := h2
    unfold SKP
    rw [h3, h4, h5]
    exact n5
/-- the class's codes: nothing of them changed -/
theorem scd_f {φ χ φ' χ' : hf_F} {k a l : Nat} (h : SCD φ χ k a l) (h1 : ∀ q, φ' 53 q = φ 53 q) (h2 : ∀ q, φ' 54 q = φ 54 q) (h3 : ∀ q, φ' 55 q = φ 55 q) (h4 : φ' 52 3 = φ 52 3) (h5 : ∀ q, χ' 196 q = χ 196 q) (h6 : χ' 192 34 = χ 192 34) : SCD φ' χ' k a l := by
  obtain ⟨a1, a2, a3, a4, a5, a6⟩ := h
  unfold SCD SKP SKE at *
  rw [h4, h6]
  refine ⟨a1, a2, fun i hi => ?_, fun j hj => ?_, fun j hj => ?_, fun j hj => ?_⟩
  · rw [h5, h5, h5, h1, h2, h3]; exact a3 i hi
  · rw [h1, h2, h3]; exact a4 j hj
  · rw [h1, h2, h3]; exact a5 j hj
  · rw [h1, h2, h3]; exact a6 j hj
noncomputable def SAD (φ : hf_F) (c s v : Int) : hf_F := hf_up (hf_up (hf_up (hf_up φ 53 (φ 52 3).toNat c) 54 (φ 52 3).toNat s) 55 (φ 52 3).toNat v) 52 3 (φ 52 3 + 1)
theorem sad_e {φ : hf_F} {c s v : Int} (h : φ 52 3 < 40) : F_Sentence_add_52 φ c s v = (1, SAD φ c s v) := by
  unfold F_Sentence_add_52
  rw [if_neg (show ¬ 40 ≤ φ 52 3 by omega)]
  rfl
theorem sad_f (φ : hf_F) (c s v : Int) : SAD φ c s v 53 (φ 52 3).toNat = c ∧ SAD φ c s v 54 (φ 52 3).toNat = s ∧ SAD φ c s v 55 (φ 52 3).toNat = v ∧ SAD φ c s v 52 3 = φ 52 3 + 1 ∧ (∀ a k : Nat, ¬ (a = 52 ∧ k = 3) → ¬ ((a = 53 ∨ a = 54 ∨ a = 55) ∧ k = (φ 52 3).toNat) → SAD φ c s v a k = φ a k) := by
  unfold SAD
  refine ⟨?_, ?_, ?_, hf_up_eq, fun a k h1 h2 => ?_⟩
  · rw [up_a (by decide), up_a (by decide), up_a (by decide), hf_up_eq]
  · rw [up_a (by decide), up_a (by decide), hf_up_eq]
  · rw [up_a (by decide), hf_up_eq]
  · rw [hf_up_ne (by omega), hf_up_ne (by omega), hf_up_ne (by omega), hf_up_ne (by omega)]
theorem scd_add_n {φ χ : hf_F} {k : Nat} (h : SCD φ χ k 0 0) : SCD (SAD φ 14 0 0) χ (k + 1) 0 0 := by
  obtain ⟨a1, a2, a3, a4, a5, a6⟩ := h
  obtain ⟨s1, s2, s3, s4, s5⟩ := sad_f φ 14 0 0
  have hn : (φ 52 3).toNat = (χ 192 34).toNat + k := by omega
  rw [hn] at s1 s2 s3 s5
  refine ⟨by omega, a2, fun i hi => ?_, fun j hj => ?_, fun j hj => by omega, fun j hj => by omega⟩
  · have := a3 i hi
    unfold SKP at this ⊢
    rw [s5 53 i (by omega) (by omega), s5 54 i (by omega) (by omega), s5 55 i (by omega) (by omega)]
    exact this
  · by_cases c : j = k
    · rw [c]; exact ⟨s1, s2, s3⟩
    · have := a4 j (by omega)
      unfold SKE at this ⊢
      rw [s5 53 _ (by omega) (by omega), s5 54 _ (by omega) (by omega), s5 55 _ (by omega) (by omega)]
      exact this
theorem scd_add_a {φ χ : hf_F} {k : Nat} (h : SCD φ χ k 0 0) : SCD (SAD φ 13 0 0) χ k 1 0 := by
  obtain ⟨a1, a2, a3, a4, a5, a6⟩ := h
  obtain ⟨s1, s2, s3, s4, s5⟩ := sad_f φ 13 0 0
  have hn : (φ 52 3).toNat = (χ 192 34).toNat + k := by omega
  rw [hn] at s1 s2 s3 s5
  refine ⟨by omega, a2, fun i hi => ?_, fun j hj => ?_, fun j hj => ?_, fun j hj => by omega⟩
  · have := a3 i hi
    unfold SKP at this ⊢
    rw [s5 53 i (by omega) (by omega), s5 54 i (by omega) (by omega), s5 55 i (by omega) (by omega)]
    exact this
  · have := a4 j (by omega)
    unfold SKE at this ⊢
    rw [s5 53 _ (by omega) (by omega), s5 54 _ (by omega) (by omega), s5 55 _ (by omega) (by omega)]
    exact this
  · rw [show j = 0 by omega]
    exact ⟨s1, s2, s3⟩
theorem scd_add_o {φ χ : hf_F} {k a : Nat} (h : SCD φ χ k a 0) : SCD (SAD φ 12 0 0) χ k a 1 := by
  obtain ⟨a1, a2, a3, a4, a5, a6⟩ := h
  obtain ⟨s1, s2, s3, s4, s5⟩ := sad_f φ 12 0 0
  have hn : (φ 52 3).toNat = (χ 192 34).toNat + k + a := by omega
  rw [hn] at s1 s2 s3 s5
  refine ⟨by omega, a2, fun i hi => ?_, fun j hj => ?_, fun j hj => ?_, fun j hj => ?_⟩
  · have := a3 i hi
    unfold SKP at this ⊢
    rw [s5 53 i (by omega) (by omega), s5 54 i (by omega) (by omega), s5 55 i (by omega) (by omega)]
    exact this
  · have := a4 j (by omega)
    unfold SKE at this ⊢
    rw [s5 53 _ (by omega) (by omega), s5 54 _ (by omega) (by omega), s5 55 _ (by omega) (by omega)]
    exact this
  · have := a5 j (by omega)
    unfold SKE at this ⊢
    rw [s5 53 _ (by omega) (by omega), s5 54 _ (by omega) (by omega), s5 55 _ (by omega) (by omega)]
    exact this
  · rw [show j = 0 by omega]
    exact ⟨s1, s2, s3⟩
/-- a code of an operand, laid by both -/
theorem scd_leaf {φ χ : hf_F} {c s v u : Int} (h : SCD φ χ 0 0 0) (hu : u = SKM c) : SCD (SAD φ c s v) (F_RideLawsModel_code_192 χ u s v) 0 0 0 := by
  obtain ⟨a1, a2, a3, a4, a5, a6⟩ := h
  obtain ⟨s1, s2, s3, s4, s5⟩ := sad_f φ c s v
  obtain ⟨q1, q2, q3, q4, q5, q6⟩ := cod_f (χ := χ) u s v a2
  have hn : (φ 52 3).toNat = (χ 192 34).toNat := by omega
  rw [hn] at s1 s2 s3 s5
  refine ⟨by omega, by omega, fun i hi => ?_, fun j hj => by omega, fun j hj => by omega, fun j hj => by omega⟩
  by_cases ci : i = (χ 192 34).toNat
  · unfold SKP
    rw [ci, s1, s2, s3, q2, q3, q4]
    exact ⟨hu, rfl, rfl⟩
  · have := a3 i (by omega)
    unfold SKP at this ⊢
    rw [s5 53 i (by omega) (by omega), s5 54 i (by omega) (by omega), s5 55 i (by omega) (by omega), q5 _ (by omega), q5 _ (by omega), q5 _ (by omega)]
    exact this
