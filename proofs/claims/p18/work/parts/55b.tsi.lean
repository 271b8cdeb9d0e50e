/-! how often all have said something, in a tick -/
noncomputable def TSM (m m' : Nat → Int) (d : Int) : Prop := (∀ k : Nat, k < 99 → m' k = m k) ∧ (∀ k : Nat, 166 ≤ k → k < 172 → m k ≤ m' k) ∧ SU m' ≤ SU m + d
theorem tsm_e {m m' : Nat → Int} (h0 : ∀ k : Nat, k < 99 → m' k = m k) (h : ∀ k : Nat, 166 ≤ k → k < 172 → m' k = m k) : TSM m m' 0 := by
  refine ⟨h0, fun k h1 h2 => by rw [h k h1 h2]; exact Int.le_refl _, ?_⟩
  unfold SU
  rw [h 166 (by decide) (by decide), h 167 (by decide) (by decide), h 168 (by decide) (by decide), h 169 (by decide) (by decide), h 170 (by decide) (by decide), h 171 (by decide) (by decide)]
  omega
theorem tsm_t {m m' m'' : Nat → Int} {d e : Int} (h : TSM m m' d) (h2 : TSM m' m'' e) : TSM m m'' (d + e) := by
  refine ⟨fun k q => (h2.1 k q).trans (h.1 k q), fun k a b => Int.le_trans (h.2.1 k a b) (h2.2.1 k a b), ?_⟩
  have := h.2.2
  have := h2.2.2
  omega
theorem tsm_w {m m' : Nat → Int} {d e : Int} (h : TSM m m' d) (hd : d ≤ e) : TSM m m' e := ⟨h.1, h.2.1, by have := h.2.2; omega⟩
theorem so_l (r : Nat) (hr : r < 6) (w : Int) : ∀ (n : Nat) (χ : hf_F) (l : Int), 8 - l < n → 0 ≤ l → l ≤ 8 → χ 194 4 ≤ 8 → TSM (χ 194) (F_RideLawsModel_saysOne_192_l8 n χ (r : Int) w l 194) 1 := by
  intro n
  induction n with
  | zero => intro χ l h1 h2 h3; omega
  | succ n ih =>
    intro χ l h1 h2 h3 h4
    rw [F_RideLawsModel_saysOne_192_l8_s]
    by_cases c : χ 194 4 ≤ l
    · rw [if_pos c]
      have f := sfin_f χ r w hr
      show TSM (χ 194) (SFIN χ (r : Int) w 194) 1
      have e : ∀ k : Nat, 166 ≤ k → k < 172 → ¬ k = 166 + r → SFIN χ (r : Int) w 194 k = χ 194 k := fun k a b q => f.2.2.2.2.1 k (by omega) (by omega) q (by omega)
      have e1 := f.2.2.1
      refine ⟨fun k q => f.2.2.2.2.1 k (by omega) (by omega) (by omega) (by omega), fun k a b => ?_, ?_⟩
      · by_cases q : k = 166 + r
        · rw [q, e1]; omega
        · rw [e k a b q]; exact Int.le_refl _
      · unfold SU
        rcases (show r = 0 ∨ r = 1 ∨ r = 2 ∨ r = 3 ∨ r = 4 ∨ r = 5 by omega) with rfl | rfl | rfl | rfl | rfl | rfl
        · rw [e 167 (by decide) (by decide) (by decide), e 168 (by decide) (by decide) (by decide), e 169 (by decide) (by decide) (by decide), e 170 (by decide) (by decide) (by decide), e 171 (by decide) (by decide) (by decide)]
          have e1 : SFIN χ ((0 : Nat) : Int) w 194 166 = χ 194 166 + 1 := e1
          omega
        · rw [e 166 (by decide) (by decide) (by decide), e 168 (by decide) (by decide) (by decide), e 169 (by decide) (by decide) (by decide), e 170 (by decide) (by decide) (by decide), e 171 (by decide) (by decide) (by decide)]
          have e1 : SFIN χ ((1 : Nat) : Int) w 194 167 = χ 194 167 + 1 := e1
          omega
        · rw [e 166 (by decide) (by decide) (by decide), e 167 (by decide) (by decide) (by decide), e 169 (by decide) (by decide) (by decide), e 170 (by decide) (by decide) (by decide), e 171 (by decide) (by decide) (by decide)]
          have e1 : SFIN χ ((2 : Nat) : Int) w 194 168 = χ 194 168 + 1 := e1
          omega
        · rw [e 166 (by decide) (by decide) (by decide), e 167 (by decide) (by decide) (by decide), e 168 (by decide) (by decide) (by decide), e 170 (by decide) (by decide) (by decide), e 171 (by decide) (by decide) (by decide)]
          have e1 : SFIN χ ((3 : Nat) : Int) w 194 169 = χ 194 169 + 1 := e1
          omega
        · rw [e 166 (by decide) (by decide) (by decide), e 167 (by decide) (by decide) (by decide), e 168 (by decide) (by decide) (by decide), e 169 (by decide) (by decide) (by decide), e 171 (by decide) (by decide) (by decide)]
          have e1 : SFIN χ ((4 : Nat) : Int) w 194 170 = χ 194 170 + 1 := e1
          omega
        · rw [e 166 (by decide) (by decide) (by decide), e 167 (by decide) (by decide) (by decide), e 168 (by decide) (by decide) (by decide), e 169 (by decide) (by decide) (by decide), e 170 (by decide) (by decide) (by decide)]
          have e1 : SFIN χ ((5 : Nat) : Int) w 194 171 = χ 194 171 + 1 := e1
          omega
    · rw [if_neg c]
      have key : ∀ A B : Int, TSM (χ 194) (F_RideLawsModel_saysOne_192_l8 n (hf_up (hf_up χ 194 102 A) 194 ((172 + l).toNat) B) (r : Int) w (l + 1) 194) 1 := fun A B => by
        have hc : ∀ k : Nat, k < 172 → ¬ k = 102 → hf_up (hf_up χ 194 102 A) 194 ((172 + l).toNat) B 194 k = χ 194 k := fun k a b => by rw [hf_up_ne (by omega), hf_up_ne (by omega)]
        exact tsm_w (tsm_t (tsm_e (fun k a => hc k (by omega) (by omega)) (fun k a b => hc k b (by omega))) (ih _ (l + 1) (by omega) (by omega) (by omega) (by rw [hc 4 (by decide) (by decide)]; exact h4))) (by omega)
      by_cases c2 : χ 194 100 = χ 194 ((75 + l).toNat) + 1
      · rw [if_neg (fun q => q c2)]
        by_cases c3 : χ 194 ((83 + l).toNat) = w
        · rw [if_pos c3]; exact key _ _
        · rw [if_neg c3]; exact ih χ (l + 1) (by omega) (by omega) (by omega) h4
      · rw [if_pos c2]; exact ih χ (l + 1) (by omega) (by omega) (by omega) h4
theorem ron_r (χ : hf_F) (s : Int) (h3 : χ 194 3 ≤ 6) : ∀ (n : Nat) (l : Int), 6 - l < n → 0 ≤ l → -1 ≤ F_RideLawsModel_riderOn_192_l2 n χ s l ∧ F_RideLawsModel_riderOn_192_l2 n χ s l ≤ 5 := by
  intro n
  induction n with
  | zero => intro l h1 h2; exact ⟨show (-1 : Int) ≤ 0 by decide, show (0 : Int) ≤ 5 by decide⟩
  | succ n ih =>
    intro l h1 h2
    rw [F_RideLawsModel_riderOn_192_l2_s]
    by_cases c : χ 194 3 ≤ l
    · rw [if_pos c]; exact ⟨by decide, by decide⟩
    · rw [if_neg c]
      by_cases c2 : χ 194 ((112 + l).toNat) = s + 1
      · rw [if_neg (fun q => q c2)]; omega
      · rw [if_pos c2]; exact ih (l + 1) (by omega) (by omega)
theorem tk_l : ∀ (n : Nat) (χ : hf_F) (l : Int), 8 - l < n → 0 ≤ l → l ≤ 8 → χ 194 1 ≤ 8 → χ 194 3 ≤ 6 → χ 194 4 ≤ 8 → TSM (χ 194) (F_RideLawsModel_tick_192_l73 n χ l 194) (8 - l) := by
  intro n
  induction n with
  | zero => intro χ l h1 h2 h3; omega
  | succ n ih =>
    intro χ l h1 h2 h3 k1 k3 k4
    rw [F_RideLawsModel_tick_192_l73_s]
    by_cases c : χ 194 1 ≤ l
    · rw [if_pos c]
      exact tsm_w (tsm_e (fun k a => hf_up_ne (by omega)) (fun k a b => hf_up_ne (by omega))) (by omega)
    · rw [if_neg c]
      have skip : TSM (χ 194) (F_RideLawsModel_tick_192_l73 n χ (l + 1) 194) (8 - l) := tsm_w (ih χ (l + 1) (by omega) (by omega) (by omega) k1 k3 k4) (by omega)
      by_cases c2 : χ 194 ((104 + l).toNat) = 0
      · rw [if_neg (fun q => q c2), bnp_e rfl]
        have hz := ron_r χ l k3 ((6 - 0 : Int).toNat + 1) 0 (by decide) (by decide)
        have hz : -1 ≤ F_RideLawsModel_riderOn_192 χ l ∧ F_RideLawsModel_riderOn_192 χ l ≤ 5 := hz
        generalize F_RideLawsModel_riderOn_192 χ l = z at hz
        by_cases c3 : z < 0
        · rw [if_pos c3]; exact skip
        · rw [if_neg c3]
          by_cases c4 : χ 194 ((118 + z).toNat) ≤ 0
          · rw [if_pos c4]; exact skip
          · rw [if_neg c4, bnv_e rfl]
            have hs : TSM (χ 194) (F_RideLawsModel_saysOne_192 χ z 194) 1 := by
              unfold F_RideLawsModel_saysOne_192
              rw [bnp_e rfl]
              have := so_l z.toNat (by omega) (F_RideLawsModel_nextWord_192 χ z) ((8 - 0 : Int).toNat + 1) χ 0 (by decide) (by decide) (by decide) k4
              rw [show ((z.toNat : Nat) : Int) = z by omega] at this
              exact this
            exact tsm_w (tsm_t hs (ih _ (l + 1) (by omega) (by omega) (by omega) (by rw [hs.1 1 (by decide)]; exact k1) (by rw [hs.1 3 (by decide)]; exact k3) (by rw [hs.1 4 (by decide)]; exact k4))) (by omega)
      · rw [if_pos c2]; exact skip
theorem tick_si {χ : hf_F} (hb : CB (χ 194)) (hr : SRB (χ 194)) : TSM (χ 194) (F_RideLawsModel_tick_192 χ 194) 8 := by
  unfold CB at hb
  obtain ⟨ξ, e1, _, e2, _⟩ := tick_1 ((8 - 0 : Int).toNat + 1) χ 0 (by decide) (by decide) (by decide) (by omega) hr
  have e1 : F_RideLawsModel_tick_192 χ = F_RideLawsModel_tick_192_l73 9 ξ 0 := e1
  rw [e1]
  have e3 : ∀ k : Nat, (k < 99 ∨ 112 ≤ k) → ξ 194 k = χ 194 k := fun k q => e2 k (by omega)
  exact tsm_w (tsm_t (tsm_e (fun k a => e3 k (Or.inl a)) (fun k a b => e3 k (by omega))) (tk_l 9 ξ 0 (by decide) (by decide) (by decide) (by rw [e3 1 (by decide)]; omega) (by rw [e3 3 (by decide)]; omega) (by rw [e3 4 (by decide)]; omega))) (by decide)
theorem tkb_s {χ : hf_F} (hb : CB (χ 194)) (hr : SRB (χ 194)) (h : TKB (χ 194)) (ht : χ 194 99 < 1000) (e : F_RideLawsModel_tick_192 χ 194 99 = χ 194 99 + 1) : TKB (F_RideLawsModel_tick_192 χ 194) := by
  obtain ⟨_, s1, s2⟩ := tick_si hb hr
  obtain ⟨h1, h2, h3, h4⟩ := h
  refine ⟨by omega, by omega, fun k a b => Int.le_trans (h3 k a b) (s1 k a b), by omega⟩
