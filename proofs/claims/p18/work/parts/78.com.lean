/-! comes -/
theorem md_per {a v n i : Int} (hn : 1 ≤ n) (ha : 0 ≤ a) (hv : 0 ≤ v) (hi : n ≤ i) : (a + i * v).tmod n = (a + (i - n) * v).tmod n := by
  have h1 : 0 ≤ i * v := Int.mul_nonneg (by omega) hv
  have h2 : 0 ≤ (i - n) * v := Int.mul_nonneg (by omega) hv
  rw [Int.tmod_eq_emod_of_nonneg (by omega), Int.tmod_eq_emod_of_nonneg (by omega)]
  rw [show a + i * v = a + (i - n) * v + n * v by rw [Int.sub_mul]; omega]
  exact Int.add_mul_emod_self_left _ _ _
theorem md_stp {a v n i : Int} (hn : 1 ≤ n) (ha : 0 ≤ a) (hv : 0 ≤ v) (hi : 0 ≤ i) : ((a + i * v).tmod n + v).tmod n = (a + (i + 1) * v).tmod n := by
  have h1 : 0 ≤ i * v := Int.mul_nonneg hi hv
  have h2 : 0 ≤ (a + i * v).tmod n := Int.tmod_nonneg _ (by omega)
  have h3 : (i + 1) * v = i * v + v := by rw [Int.add_mul, Int.one_mul]
  rw [Int.tmod_eq_emod_of_nonneg (by omega), Int.tmod_eq_emod_of_nonneg (show 0 ≤ a + (i + 1) * v by omega), Int.tmod_eq_emod_of_nonneg (by omega), Int.emod_add_emod, h3, Int.add_assoc]
/-- the model's place of a seat behind i ticks -/
theorem stepin_e {φ χ : hf_F} {q : Nat} {i : Int} (hI : Inv χ) (h : SCR φ χ) (hq : (q : Int) < χ 194 1) (h0 : 0 ≤ i) (h9 : i ≤ 900) : ∃ n v a : Int, (1 ≤ n ∧ n ≤ 30) ∧ (0 ≤ v ∧ v ≤ 9) ∧ (0 ≤ a ∧ a < n) ∧ φ 12 q = n ∧ φ 11 q = v.tmod n ∧ φ 18 q = a ∧ ∀ j : Int, 0 ≤ j → j ≤ 900 → F_RideLawsModel_stepIn_192 χ (q : Int) j = (a + j * v).tmod n := by
  obtain ⟨_, g, g1, g2, g3, g4, g5⟩ := h.1.2.2.2.1 q hq
  obtain ⟨b1, b2, b3⟩ := h.2.1.2 q hq
  have hbb := cb_i hI
  unfold CB at hbb
  have hrb := rb_i hI g (by omega)
  rw [g2, show ((g : Int)).toNat = g by omega] at b3
  refine ⟨χ 194 (5 + g), χ 194 (8 + g), χ 194 (104 + q), ⟨g5, hrb.1.2⟩, hrb.2, ⟨b2, b3⟩, g3, g4, b1, fun j hj hj9 => ?_⟩
  unfold F_RideLawsModel_stepIn_192
  rw [show (104 + (q : Int)).toNat = 104 + q by omega, show (11 + (q : Int)).toNat = 11 + q by omega, g2, show (8 + (g : Int)).toNat = 8 + g by omega, show (5 + (g : Int)).toNat = 5 + g by omega]
  have hjv : 0 ≤ j * χ 194 (8 + g) := Int.mul_nonneg hj hrb.2.1
  have hjv2 : j * χ 194 (8 + g) ≤ 900 * 9 := Int.mul_le_mul hj9 hrb.2.2 hrb.2.1 (by decide)
  rw [show jm_n (χ 194 (104 + q) + j * χ 194 (8 + g)) = χ 194 (104 + q) + j * χ 194 (8 + g) from hi_n (by unfold hi; omega), show jm_n (χ 194 (5 + g)) = χ 194 (5 + g) from hi_n (by unfold hi; omega)]
theorem com_n {χ : hf_F} {q : Nat} {n v a : Int} (hn : 1 ≤ n) (ha : 0 ≤ a) (hv : 0 ≤ v) (hn3 : n ≤ 30) (hs : ∀ j : Int, 0 ≤ j → j ≤ 900 → F_RideLawsModel_stepIn_192 χ (q : Int) j = (a + j * v).tmod n) : ∀ (m : Nat) (i : Int), 30 - i < m → n ≤ i → i ≤ 30 → (∀ j : Int, 0 ≤ j → j < i → ¬ (a + j * v).tmod n = 0) → F_RideLawsModel_comes_192_l17 m χ (q : Int) i = (-1, χ) := by
  intro m
  induction m with
  | zero => intro i h1 h2 h4 h3; omega
  | succ m ih =>
    intro i h1 h2 h4 h3
    rw [F_RideLawsModel_comes_192_l17_s]
    by_cases c : 30 ≤ i
    · rw [if_pos c]
    · rw [if_neg c, bnp_e (hs i (by omega) (by omega))]
      have hb1 : 0 ≤ (a + i * v).tmod n := Int.tmod_nonneg _ (by have : 0 ≤ i * v := Int.mul_nonneg (by omega) hv; omega)
      have hb2 : (a + i * v).tmod n < n := Int.tmod_lt_of_pos _ (by omega)
      have hnz : ¬ (a + i * v).tmod n = 0 := by rw [md_per hn ha hv h2]; exact h3 (i - n) (by omega) (by omega)
      rw [show jm_n ((a + i * v).tmod n) = (a + i * v).tmod n from hi_n (by unfold hi; omega), if_pos hnz]
      refine ih (i + 1) (by omega) (by omega) (by omega) (fun j j1 j2 => ?_)
      by_cases cj : j = i
      · rw [cj]; exact hnz
      · exact h3 j j1 (by omega)
theorem com_l {φ χ : hf_F} {q : Nat} {n v a : Int} (hn : 1 ≤ n) (ha : 0 ≤ a) (hv : 0 ≤ v ∧ v ≤ 9) (hn3 : n ≤ 30) (han : a < n) (f1 : φ 12 q = n) (f2 : φ 11 q = v.tmod n) (hs : ∀ j : Int, 0 ≤ j → j ≤ 900 → F_RideLawsModel_stepIn_192 χ (q : Int) j = (a + j * v).tmod n) : ∀ (k m : Nat) (i : Int), 30 - i < k → 30 - i < m → 0 ≤ i → i ≤ n → (∀ j : Int, 0 ≤ j → j < i → ¬ (a + j * v).tmod n = 0) →
    F_RideLawsModel_comes_192_l17 m χ (q : Int) i = (F_Outlook_ticksToBox_187_l12 k φ (q : Int) ((a + i * v).tmod n) i, χ) := by
  intro k
  induction k with
  | zero => intro m i h1 h2 h3 h4; omega
  | succ k ih =>
    intro m i h1 h2 h3 h4 h5
    rw [F_Outlook_ticksToBox_187_l12_s, show ((q : Int)).toNat = q by omega, f1]
    by_cases c : n ≤ i
    · rw [if_pos c]
      exact com_n hn ha hv.1 hn3 hs m i h2 c (by omega) h5
    · rw [if_neg c]
      obtain ⟨m, rfl⟩ : ∃ j, m = j + 1 := ⟨m - 1, by omega⟩
      have hiv : 0 ≤ i * v := Int.mul_nonneg h3 hv.1
      have hb1 : 0 ≤ (a + i * v).tmod n := Int.tmod_nonneg _ (by omega)
      have hb2 : (a + i * v).tmod n < n := Int.tmod_lt_of_pos _ (by omega)
      rw [F_RideLawsModel_comes_192_l17_s, if_neg (show ¬ 30 ≤ i by omega), bnp_e (hs i (by omega) (by omega)), show jm_n ((a + i * v).tmod n) = (a + i * v).tmod n from hi_n (by unfold hi; omega)]
      by_cases c2 : (a + i * v).tmod n = 0
      · rw [if_neg (fun q => q c2), if_neg (fun q => q c2)]
      · rw [if_pos c2, if_pos c2]
        have hst : F_Plan_stepOn_5 φ (q : Int) ((a + i * v).tmod n) = (a + (i + 1) * v).tmod n := by
          unfold F_Plan_stepOn_5
          obtain ⟨s1, s2, s3, s4, s5⟩ := step_e (n := n) (v := v) (a := (a + i * v).tmod n) hn hn3 hv.1 hv.2 hb1 hb2
          rw [show ((q : Int)).toNat = q by omega, f1, f2, show jm_n ((a + i * v).tmod n + v.tmod n) = (a + i * v).tmod n + v.tmod n from hi_n (by unfold hi; omega), s1]
          exact md_stp hn ha hv.1 h3
        rw [bnp_e hst]
        refine ih m (i + 1) (by omega) (by omega) (by omega) (by omega) (fun j j1 j2 => ?_)
        by_cases cj : j = i
        · rw [cj]; exact c2
        · exact h5 j j1 (by omega)
theorem comes_q {φ χ ξ : hf_F} {v r s : Int} (hI : Inv χ) (h : SCR φ χ) (e1 : F_RideLaws_comes_0 φ v = r) (e2 : F_RideLawsModel_comes_192 χ v = (s, ξ)) : r = s := by
  have hbb := cb_i hI
  unfold CB at hbb
  have k1 : φ 6 1 = χ 194 1 := h.1.1.2.1
  unfold F_RideLaws_comes_0 at e1
  unfold F_RideLawsModel_comes_192 at e2
  rw [bnp_e (has_e1 φ v), k1] at e1
  rw [bnp_e (isseat_e _ v), show hf_up χ 192 0 0 194 1 = χ 194 1 from rfl] at e2
  by_cases c : 0 ≤ v ∧ v < χ 194 1
  · rw [if_pos c, if_neg (by decide), bnp_e rfl] at e1
    rw [if_pos (show 0 ≤ v ∧ v ≤ χ 194 1 - 1 by omega), if_pos (by decide)] at e2
    obtain ⟨n, w, a, n1, n2, n3, n4, n5, n6, n7⟩ := stepin_e (q := v.toNat) (i := 0) (inv_0 hI) (scr_0 (cb_i hI) h) (by show ((v.toNat : Nat) : Int) < χ 194 1; omega) (by decide) (by decide)
    have hl := com_l (φ := φ) (χ := hf_up χ 192 0 0) n1.1 n3.1 n2 n1.2 n3.2 n4 n5 n7 ((30 - 0 : Int).toNat + 1) ((30 - 0 : Int).toNat + 1) 0 (by decide) (by decide) (by decide) (by omega) (fun j j1 j2 => by omega)
    rw [show ((v.toNat : Nat) : Int) = v by omega, e2] at hl
    have hs := congrArg Prod.fst hl
    dsimp only at hs
    rw [hs, ← e1]
    unfold F_Outlook_ticksToBox_187
    rw [n6, show a + 0 * w = a by omega, Int.tmod_eq_of_lt n3.1 n3.2]
  · rw [if_neg c, if_pos rfl] at e1
    rw [if_neg (show ¬ (0 ≤ v ∧ v ≤ χ 194 1 - 1) by omega), if_neg (fun q => q rfl)] at e2
    cases e2
    exact e1.symm
