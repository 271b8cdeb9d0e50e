/-! a rider says his word -/
theorem sfin_f (χ : hf_F) (r : Nat) (w : Int) (hr : r < 6) : SFIN χ (r : Int) w 194 100 = w + 1 ∧ SFIN χ (r : Int) w 194 101 = (r : Int) + 1 ∧ SFIN χ (r : Int) w 194 (166 + r) = χ 194 (166 + r) + 1 ∧ SFIN χ (r : Int) w 194 (160 + r) = (χ 194 (160 + r) + 1).tmod (χ 194 (118 + r)) ∧
    (∀ k : Nat, ¬ k = 100 → ¬ k = 101 → ¬ k = 166 + r → ¬ k = 160 + r → SFIN χ (r : Int) w 194 k = χ 194 k) ∧ ∀ a k : Nat, ¬ a = 194 → SFIN χ (r : Int) w a k = χ a k := by
  unfold SFIN
  rw [show (166 + (r : Int)).toNat = 166 + r by omega, show (160 + (r : Int)).toNat = 160 + r by omega, show (118 + (r : Int)).toNat = 118 + r by omega]
  have e1 : hf_up (hf_up χ 194 100 (w + 1)) 194 101 ((r : Int) + 1) 194 (166 + r) = χ 194 (166 + r) := by rw [hf_up_ne (fun z => by omega), hf_up_ne (fun z => by omega)]
  rw [e1]
  have e2 : hf_up (hf_up (hf_up χ 194 100 (w + 1)) 194 101 ((r : Int) + 1)) 194 (166 + r) (χ 194 (166 + r) + 1) 194 (160 + r) = χ 194 (160 + r) := by rw [hf_up_ne (fun z => by omega), hf_up_ne (fun z => by omega), hf_up_ne (fun z => by omega)]
  have e3 : hf_up (hf_up (hf_up χ 194 100 (w + 1)) 194 101 ((r : Int) + 1)) 194 (166 + r) (χ 194 (166 + r) + 1) 194 (118 + r) = χ 194 (118 + r) := by rw [hf_up_ne (fun z => by omega), hf_up_ne (fun z => by omega), hf_up_ne (fun z => by omega)]
  rw [e2, e3]
  refine ⟨?_, ?_, ?_, ?_, fun k a1 a2 a3 a4 => ?_, fun a k ha => ?_⟩
  · rw [hf_up_ne (fun z => by omega), hf_up_ne (fun z => by omega), hf_up_ne (fun z => by omega), hf_up_eq]
  · rw [hf_up_ne (fun z => by omega), hf_up_ne (fun z => by omega), hf_up_eq]
  · rw [hf_up_ne (fun z => by omega), hf_up_eq]
  · rw [hf_up_eq]
  · rw [hf_up_ne (fun z => a4 z.2), hf_up_ne (fun z => a3 z.2), hf_up_ne (fun z => a2 z.2), hf_up_ne (fun z => a1 z.2)]
  · rw [hf_up_ne (fun z => ha z.1), hf_up_ne (fun z => ha z.1), hf_up_ne (fun z => ha z.1), hf_up_ne (fun z => ha z.1)]
theorem slaw_f (χ : hf_F) (l : Nat) (hl : l < 8) : SLAW χ l 194 102 = hb_and (hb_or (χ 194 102) (hb_shl 1 (l : Int))) (hb_xor (χ 194 (91 + l)) (-1 : Int)) ∧ SLAW χ l 194 (172 + l) = χ 194 (172 + l) + 1 ∧ (∀ k : Nat, ¬ k = 102 → ¬ k = 172 + l → SLAW χ l 194 k = χ 194 k) ∧ ∀ a k : Nat, ¬ a = 194 → SLAW χ l a k = χ a k := by
  unfold SLAW
  refine ⟨?_, hf_up_eq, fun k a1 a2 => ?_, fun a k ha => ?_⟩
  · rw [hf_up_ne (fun z => by omega), hf_up_eq]
  · rw [hf_up_ne (fun z => a2 z.2), hf_up_ne (fun z => a1 z.2)]
  · rw [hf_up_ne (fun z => ha z.1), hf_up_ne (fun z => ha z.1)]
noncomputable def LB (m : Nat → Int) : Prop := CB m ∧ ∀ i : Nat, i < 8 → (0 ≤ m (75 + i) ∧ m (75 + i) ≤ 7) ∧ (0 ≤ m (83 + i) ∧ m (83 + i) ≤ 7)
theorem law_b {χ : hf_F} (hI : Inv χ) (i : Nat) (hi : i < 8) : (0 ≤ χ 194 (75 + i) ∧ χ 194 (75 + i) ≤ 7) ∧ (0 ≤ χ 194 (83 + i) ∧ χ 194 (83 + i) ≤ 7) := by
  have a := iv_ar (a := 194) (s := 75) (t := 83) (lo := 0) (u := 7) (z := ((75 + i : Nat) : Int)) hI (by decide +kernel) (by omega) (by omega)
  have b := iv_ar (a := 194) (s := 83) (t := 91) (lo := 0) (u := 7) (z := ((83 + i : Nat) : Int)) hI (by decide +kernel) (by omega) (by omega)
  exact ⟨a, b⟩
theorem lb_i {χ : hf_F} (hI : Inv χ) : LB (χ 194) := ⟨cb_i hI, law_b hI⟩
noncomputable def SB_17 (φ : hf_F) (r : Int) : hf_F := hf_up (hf_up (hf_up φ 23 r.toNat (if φ 21 r.toNat ≤ φ 23 r.toNat + 1 then 0 else φ 23 r.toNat + 1)) 24 r.toNat (φ 24 r.toNat + 1)) 17 4 (φ 17 4 + 1)
theorem spk_e_17 (φ : hf_F) (r : Int) : F_State_speak_17_5 φ r = if φ 17 1 = -1 ∨ φ 16 ((φ 17 1) * 8 + φ 22 (r * 6 + φ 23 r.toNat).toNat).toNat = -1 then hf_up (hf_up (SB_17 φ r) 17 1 (φ 22 (r * 6 + φ 23 r.toNat).toNat)) 17 2 r
    else hf_up (hf_up (hf_up (hf_up (SB_17 φ r) 17 3 (hb_and (hb_or (φ 17 3) (hb_shl 1 (φ 16 ((φ 17 1) * 8 + φ 22 (r * 6 + φ 23 r.toNat).toNat).toNat))) (hb_xor (φ 15 (φ 16 ((φ 17 1) * 8 + φ 22 (r * 6 + φ 23 r.toNat).toNat).toNat).toNat) (-1 : Int)))) 25 (φ 16 ((φ 17 1) * 8 + φ 22 (r * 6 + φ 23 r.toNat).toNat).toNat).toNat (φ 25 (φ 16 ((φ 17 1) * 8 + φ 22 (r * 6 + φ 23 r.toNat).toNat).toNat).toNat + 1)) 17 1 (φ 22 (r * 6 + φ 23 r.toNat).toNat)) 17 2 r := by
  unfold F_State_speak_17_5 SB_17 F_State_rollWord_17
  rw [bnp_e rfl]
  by_cases c1 : φ 17 1 = -1
  · rw [if_pos (Or.inl c1)]
    by_cases c2 : φ 21 r.toNat ≤ φ 23 r.toNat + 1
    · rw [if_pos c2, if_neg (fun q => q c1), if_pos c2]
    · rw [if_neg c2, if_neg (fun q => q c1), if_neg c2]
  · by_cases c3 : φ 16 ((φ 17 1) * 8 + φ 22 (r * 6 + φ 23 r.toNat).toNat).toNat = -1
    · rw [if_pos (Or.inr c3)]
      by_cases c2 : φ 21 r.toNat ≤ φ 23 r.toNat + 1
      · rw [if_pos c2, if_pos c1, if_pos c3, if_pos c2]
      · rw [if_neg c2, if_pos c1, if_pos c3, if_neg c2]
    · rw [if_neg (show ¬ (φ 17 1 = -1 ∨ φ 16 ((φ 17 1) * 8 + φ 22 (r * 6 + φ 23 r.toNat).toNat).toNat = -1) from fun q => q.elim c1 c3)]
      by_cases c2 : φ 21 r.toNat ≤ φ 23 r.toNat + 1
      · rw [if_pos c2, if_pos c1, if_neg c3, if_pos c2]
      · rw [if_neg c2, if_pos c1, if_neg c3, if_neg c2]
theorem spk_17 {φ χ : hf_F} {r : Nat} (hr : r < 6) (hI : LB (χ 194)) (hlo : LOG 5 φ (χ 194)) (hcl : CLG 5 φ (χ 194)) (h : STN 17 φ (χ 194) (χ 194)) (hl : 0 < χ 194 (118 + r)) (h3 : (r : Int) < χ 194 3) :
    STN 17 (F_State_speak_17_5 φ (r : Int)) (χ 194) (F_RideLawsModel_saysOne_192 χ (r : Int) 194) ∧ (∀ k : Nat, ¬ (k = 100 ∨ k = 101 ∨ k = 102 ∨ k = 166 + r ∨ k = 160 + r ∨ (172 ≤ k ∧ k < 180)) → F_RideLawsModel_saysOne_192 χ (r : Int) 194 k = χ 194 k) ∧
    (∀ a k : Nat, ¬ a = 194 → F_RideLawsModel_saysOne_192 χ (r : Int) a k = χ a k) ∧ (∀ a k : Nat, ¬ (a = 17 ∨ a = 23 ∨ a = 24 ∨ a = 25) → F_State_speak_17_5 φ (r : Int) a k = φ a k) := by
  have cb := hI.1
  unfold CB at cb
  obtain ⟨⟨s1, s2, s3, s4, s5, s6, s7, s8⟩, hsit, hrol, hhof⟩ := h
  obtain ⟨r1, r2, r3, r4, r5, r6, r7, r8, r9⟩ := hrol r hr
  have hp : 0 ≤ χ 194 (160 + r) ∧ χ 194 (160 + r) < χ 194 (118 + r) := by omega
  have hw := r9 (χ 194 (160 + r)).toNat (by omega)
  rw [show 124 + 6 * r + (χ 194 (160 + r)).toNat = 124 + 6 * r + (χ 194 (160 + r)).toNat from rfl] at hw
  obtain ⟨w1, w2, w3⟩ := hw
  have eNX : φ 23 r = χ 194 (160 + r) := r3
  have eRL : φ 21 r = χ 194 (118 + r) := r2
  have eRO : φ 22 ((r : Int) * 6 + φ 23 ((r : Int)).toNat).toNat = χ 194 (124 + 6 * r + (χ 194 (160 + r)).toNat) := by
    rw [show ((r : Int)).toNat = r from rfl, eNX, show ((r : Int) * 6 + χ 194 (160 + r)).toNat = 6 * r + (χ 194 (160 + r)).toNat by omega]
    exact w1
  have hnw : F_RideLawsModel_nextWord_192 χ (r : Int) = χ 194 (124 + 6 * r + (χ 194 (160 + r)).toNat) := by
    unfold F_RideLawsModel_nextWord_192
    rw [show (118 + (r : Int)).toNat = 118 + r by omega, show (160 + (r : Int)).toNat = 160 + r by omega, if_pos (by omega), show (124 + 6 * (r : Int) + χ 194 (160 + r)).toNat = 124 + 6 * r + (χ 194 (160 + r)).toNat by omega]
  have hm : F_RideLawsModel_saysOne_192 χ (r : Int) = F_RideLawsModel_saysOne_192_l8 9 χ (r : Int) (χ 194 (124 + 6 * r + (χ 194 (160 + r)).toNat)) 0 := by
    unfold F_RideLawsModel_saysOne_192
    rw [bnp_e hnw]
    rfl
  rw [hm, spk_e_17, eRO]
  generalize χ 194 (124 + 6 * r + (χ 194 (160 + r)).toNat) = w at *
  obtain ⟨l1, l2⟩ := says_l 9 χ (r : Int) w 0 (by decide) (by decide) (by decide) (by omega)
  have e1 : φ 17 1 = χ 194 100 - 1 := s2
  rw [e1]
  -- the state behind the saying, out of what the laws do
  have key : ∀ (ψ ξ : hf_F), (∀ a k : Nat, ¬ (a = 17 ∧ k = 3) → ¬ a = 25 → ψ a k = SB_17 φ (r : Int) a k) → (∀ k : Nat, ¬ k = 102 → ¬ (172 ≤ k ∧ k < 180) → ξ 194 k = χ 194 k) → (∀ a k : Nat, ¬ a = 194 → ξ a k = χ a k) → ψ 17 3 = ξ 194 102 → (∀ l : Nat, l < 8 → ψ 25 l = ξ 194 (172 + l)) →
      STN 17 (hf_up (hf_up ψ 17 1 w) 17 2 (r : Int)) (χ 194) (SFIN ξ (r : Int) w 194) ∧ (∀ k : Nat, ¬ (k = 100 ∨ k = 101 ∨ k = 102 ∨ k = 166 + r ∨ k = 160 + r ∨ (172 ≤ k ∧ k < 180)) → SFIN ξ (r : Int) w 194 k = χ 194 k) ∧
      (∀ a k : Nat, ¬ a = 194 → SFIN ξ (r : Int) w a k = χ a k) ∧ (∀ a k : Nat, ¬ (a = 17 ∨ a = 23 ∨ a = 24 ∨ a = 25) → hf_up (hf_up ψ 17 1 w) 17 2 (r : Int) a k = φ a k) := by
    intro ψ ξ p1 p2 p3 p4 p5
    obtain ⟨f1, f2, f3, f4, f5, f6⟩ := sfin_f ξ r w hr
    have hk : ∀ k : Nat, ¬ k = 100 → ¬ k = 101 → ¬ k = 102 → ¬ k = 166 + r → ¬ k = 160 + r → ¬ (172 ≤ k ∧ k < 180) → SFIN ξ (r : Int) w 194 k = χ 194 k := fun k a1 a2 a3 a4 a5 a6 => (f5 k a1 a2 a4 a5).trans (p2 k a3 a6)
    have g166 : SFIN ξ (r : Int) w 194 (166 + r) = χ 194 (166 + r) + 1 := by rw [f3, p2 (166 + r) (by omega) (by omega)]
    have g160 : SFIN ξ (r : Int) w 194 (160 + r) = if χ 194 (118 + r) ≤ χ 194 (160 + r) + 1 then 0 else χ 194 (160 + r) + 1 := by rw [f4, p2 (160 + r) (by omega) (by omega), p2 (118 + r) (by omega) (by omega), plc_e hp.1 hp.2 r7.2]
    have bB : ∀ k : Nat, ¬ k = 1 → ¬ k = 2 → ¬ k = 3 → ¬ k = 4 → hf_up (hf_up ψ 17 1 w) 17 2 (r : Int) 17 k = φ 17 k := fun k a1 a2 a3 a4 => by
      rw [hf_up_ne (fun z => a2 z.2), hf_up_ne (fun z => a1 z.2), p1 17 k (fun z => a3 z.2) (by decide)]
      unfold SB_17
      rw [hf_up_ne (fun z => a4 z.2)]
      rfl
    have b4 : hf_up (hf_up ψ 17 1 w) 17 2 (r : Int) 17 4 = φ 17 4 + 1 := by
      rw [hf_up_ne (fun z => by omega), hf_up_ne (fun z => by omega), p1 17 4 (by decide) (by decide)]
      exact hf_up_eq
    have bNX : ∀ q : Nat, hf_up (hf_up ψ 17 1 w) 17 2 (r : Int) 23 q = if q = r then (if χ 194 (118 + r) ≤ χ 194 (160 + r) + 1 then 0 else χ 194 (160 + r) + 1) else φ 23 q := fun q => by
      rw [hf_up_ne (fun z => absurd z.1 (by decide)), hf_up_ne (fun z => absurd z.1 (by decide)), p1 23 q (by omega) (by decide)]
      show hf_up φ 23 ((r : Int)).toNat _ 23 q = _
      rw [show ((r : Int)).toNat = r from rfl, eNX, eRL]
      by_cases c : q = r
      · rw [if_pos c, c, hf_up_eq]
      · rw [if_neg c, hf_up_ne (fun z => c z.2)]
    have bSB : ∀ q : Nat, hf_up (hf_up ψ 17 1 w) 17 2 (r : Int) 24 q = if q = r then φ 24 r + 1 else φ 24 q := fun q => by
      rw [hf_up_ne (fun z => absurd z.1 (by decide)), hf_up_ne (fun z => absurd z.1 (by decide)), p1 24 q (by omega) (by decide)]
      show hf_up (hf_up φ 23 r _) 24 r (φ 24 r + 1) 24 q = _
      by_cases c : q = r
      · rw [if_pos c, c]; exact hf_up_eq
      · rw [if_neg c, hf_up_ne (fun z => c z.2)]; rfl
    have bO : ∀ a k : Nat, ¬ (a = 17 ∨ a = 23 ∨ a = 24 ∨ a = 25) → hf_up (hf_up ψ 17 1 w) 17 2 (r : Int) a k = φ a k := fun a k ha => by
      rw [hf_up_ne (fun z => ha (Or.inl z.1)), hf_up_ne (fun z => ha (Or.inl z.1)), p1 a k (fun z => ha (Or.inl z.1)) (fun z => ha (Or.inr (Or.inr (Or.inr z))))]
      unfold SB_17
      rw [hf_up_ne (fun z => ha (Or.inl z.1)), hf_up_ne (fun z => ha (Or.inr (Or.inr (Or.inl z.1)))), hf_up_ne (fun z => ha (Or.inr (Or.inl z.1)))]
    refine ⟨⟨⟨?_, ?_, ?_, ?_, ?_, ?_, ?_, ?_⟩, ?_, ?_, ?_⟩, fun k hk2 => hk k (by omega) (by omega) (by omega) (by omega) (by omega) (by omega), fun a k ha => (f6 a k ha).trans (p3 a k ha), bO⟩
    · rw [bB 0 (by decide) (by decide) (by decide) (by decide), hk 99 (by omega) (by omega) (by omega) (by omega) (by omega) (by omega)]; exact s1
    · rw [f1, hf_up_ne (fun z => by omega), hf_up_eq]; omega
    · rw [f2, hf_up_eq]; omega
    · rw [hf_up_ne (fun z => by omega), hf_up_ne (fun z => by omega), p4]
      exact (f5 102 (by omega) (by omega) (by omega) (by omega)).symm
    · rw [bB 5 (by decide) (by decide) (by decide) (by decide), hk 103 (by omega) (by omega) (by omega) (by omega) (by omega) (by omega)]; exact s5
    · rw [b4, s6]
      have u : ∀ q : Nat, q < 6 → ¬ q = r → SFIN ξ (r : Int) w 194 (166 + q) = χ 194 (166 + q) := fun q hq hne => hk _ (by omega) (by omega) (by omega) (by omega) (by omega) (by omega)
      have hr6 : r = 0 ∨ r = 1 ∨ r = 2 ∨ r = 3 ∨ r = 4 ∨ r = 5 := by omega
      rcases hr6 with rfl | rfl | rfl | rfl | rfl | rfl
      · have g : SFIN ξ ((0 : Nat) : Int) w 194 166 = χ 194 166 + 1 := g166
        have h1 : SFIN ξ ((0 : Nat) : Int) w 194 167 = χ 194 167 := u 1 (by decide) (by decide)
        have h2 : SFIN ξ ((0 : Nat) : Int) w 194 168 = χ 194 168 := u 2 (by decide) (by decide)
        have h3 : SFIN ξ ((0 : Nat) : Int) w 194 169 = χ 194 169 := u 3 (by decide) (by decide)
        have h4 : SFIN ξ ((0 : Nat) : Int) w 194 170 = χ 194 170 := u 4 (by decide) (by decide)
        have h5 : SFIN ξ ((0 : Nat) : Int) w 194 171 = χ 194 171 := u 5 (by decide) (by decide)
        omega
      · have g : SFIN ξ ((1 : Nat) : Int) w 194 167 = χ 194 167 + 1 := g166
        have h0 : SFIN ξ ((1 : Nat) : Int) w 194 166 = χ 194 166 := u 0 (by decide) (by decide)
        have h2 : SFIN ξ ((1 : Nat) : Int) w 194 168 = χ 194 168 := u 2 (by decide) (by decide)
        have h3 : SFIN ξ ((1 : Nat) : Int) w 194 169 = χ 194 169 := u 3 (by decide) (by decide)
        have h4 : SFIN ξ ((1 : Nat) : Int) w 194 170 = χ 194 170 := u 4 (by decide) (by decide)
        have h5 : SFIN ξ ((1 : Nat) : Int) w 194 171 = χ 194 171 := u 5 (by decide) (by decide)
        omega
      · have g : SFIN ξ ((2 : Nat) : Int) w 194 168 = χ 194 168 + 1 := g166
        have h0 : SFIN ξ ((2 : Nat) : Int) w 194 166 = χ 194 166 := u 0 (by decide) (by decide)
        have h1 : SFIN ξ ((2 : Nat) : Int) w 194 167 = χ 194 167 := u 1 (by decide) (by decide)
        have h3 : SFIN ξ ((2 : Nat) : Int) w 194 169 = χ 194 169 := u 3 (by decide) (by decide)
        have h4 : SFIN ξ ((2 : Nat) : Int) w 194 170 = χ 194 170 := u 4 (by decide) (by decide)
        have h5 : SFIN ξ ((2 : Nat) : Int) w 194 171 = χ 194 171 := u 5 (by decide) (by decide)
        omega
      · have g : SFIN ξ ((3 : Nat) : Int) w 194 169 = χ 194 169 + 1 := g166
        have h0 : SFIN ξ ((3 : Nat) : Int) w 194 166 = χ 194 166 := u 0 (by decide) (by decide)
        have h1 : SFIN ξ ((3 : Nat) : Int) w 194 167 = χ 194 167 := u 1 (by decide) (by decide)
        have h2 : SFIN ξ ((3 : Nat) : Int) w 194 168 = χ 194 168 := u 2 (by decide) (by decide)
        have h4 : SFIN ξ ((3 : Nat) : Int) w 194 170 = χ 194 170 := u 4 (by decide) (by decide)
        have h5 : SFIN ξ ((3 : Nat) : Int) w 194 171 = χ 194 171 := u 5 (by decide) (by decide)
        omega
      · have g : SFIN ξ ((4 : Nat) : Int) w 194 170 = χ 194 170 + 1 := g166
        have h0 : SFIN ξ ((4 : Nat) : Int) w 194 166 = χ 194 166 := u 0 (by decide) (by decide)
        have h1 : SFIN ξ ((4 : Nat) : Int) w 194 167 = χ 194 167 := u 1 (by decide) (by decide)
        have h2 : SFIN ξ ((4 : Nat) : Int) w 194 168 = χ 194 168 := u 2 (by decide) (by decide)
        have h3 : SFIN ξ ((4 : Nat) : Int) w 194 169 = χ 194 169 := u 3 (by decide) (by decide)
        have h5 : SFIN ξ ((4 : Nat) : Int) w 194 171 = χ 194 171 := u 5 (by decide) (by decide)
        omega
      · have g : SFIN ξ ((5 : Nat) : Int) w 194 171 = χ 194 171 + 1 := g166
        have h0 : SFIN ξ ((5 : Nat) : Int) w 194 166 = χ 194 166 := u 0 (by decide) (by decide)
        have h1 : SFIN ξ ((5 : Nat) : Int) w 194 167 = χ 194 167 := u 1 (by decide) (by decide)
        have h2 : SFIN ξ ((5 : Nat) : Int) w 194 168 = χ 194 168 := u 2 (by decide) (by decide)
        have h3 : SFIN ξ ((5 : Nat) : Int) w 194 169 = χ 194 169 := u 3 (by decide) (by decide)
        have h4 : SFIN ξ ((5 : Nat) : Int) w 194 170 = χ 194 170 := u 4 (by decide) (by decide)
        omega
    · rw [f1]; omega
    · rw [f2]; omega
    · intro v hv
      have e : hf_up (hf_up ψ 17 1 w) 17 2 (r : Int) (17 + 2) v = φ (17 + 2) v := bO _ _ (by decide)
      rw [e]
      have u : ∀ q : Nat, q < 6 → SFIN ξ (r : Int) w 194 (112 + q) = χ 194 (112 + q) := fun q hq => hk _ (by omega) (by omega) (by omega) (by omega) (by omega) (by omega)
      rcases hsit v hv with ⟨q1, q2⟩ | ⟨q, q1, q2, q3, q4⟩
      · exact Or.inl ⟨q1, fun q hq => by rw [u q hq]; exact q2 q hq⟩
      · exact Or.inr ⟨q, q1, q2, by rw [u q q1]; exact q3, fun p hp2 => by rw [u p hp2]; exact q4 p hp2⟩
    · intro q hq
      obtain ⟨t1, t2, t3, t4, t5, t6, t7, t8, t9⟩ := hrol q hq
      have u112 : SFIN ξ (r : Int) w 194 (112 + q) = χ 194 (112 + q) := hk _ (by omega) (by omega) (by omega) (by omega) (by omega) (by omega)
      have u118 : SFIN ξ (r : Int) w 194 (118 + q) = χ 194 (118 + q) := hk _ (by omega) (by omega) (by omega) (by omega) (by omega) (by omega)
      have u124 : ∀ k : Nat, (k : Int) < χ 194 (118 + q) → SFIN ξ (r : Int) w 194 (124 + 6 * q + k) = χ 194 (124 + 6 * q + k) := fun k hk2 => hk _ (by omega) (by omega) (by omega) (by omega) (by omega) (by omega)
      unfold ROL
      rw [u112, u118]
      have c3 : hf_up (hf_up ψ 17 1 w) 17 2 (r : Int) (17 + 3) q = φ (17 + 3) q := bO _ _ (by decide)
      have c4 : hf_up (hf_up ψ 17 1 w) 17 2 (r : Int) (17 + 4) q = φ (17 + 4) q := bO _ _ (by decide)
      have c5 : ∀ k, hf_up (hf_up ψ 17 1 w) 17 2 (r : Int) (17 + 5) k = φ (17 + 5) k := fun k => bO _ _ (by decide)
      have c6 : hf_up (hf_up ψ 17 1 w) 17 2 (r : Int) (17 + 6) q = if q = r then (if χ 194 (118 + r) ≤ χ 194 (160 + r) + 1 then 0 else χ 194 (160 + r) + 1) else φ 23 q := bNX q
      have c7 : hf_up (hf_up ψ 17 1 w) 17 2 (r : Int) (17 + 7) q = if q = r then φ 24 r + 1 else φ 24 q := bSB q
      rw [c3, c4, c6, c7]
      by_cases c : q = r
      · subst c
        rw [if_pos rfl, if_pos rfl, g160, g166]
        have t4' : φ 24 q = χ 194 (166 + q) := t4
        refine ⟨t1, t2, rfl, by omega, fun z => by omega, t6, t7, ?_, fun k hk2 => ?_⟩
        · split <;> omega
        · rw [c5, u124 k hk2]; exact t9 k hk2
      · rw [if_neg c, if_neg c, hk (160 + q) (by omega) (by omega) (by omega) (by omega) (by omega) (by omega), hk (166 + q) (by omega) (by omega) (by omega) (by omega) (by omega) (by omega)]
        refine ⟨t1, t2, t3, t4, t5, t6, t7, t8, fun k hk2 => ?_⟩
        rw [c5, u124 k hk2]; exact t9 k hk2
    · intro l hl2
      have e : hf_up (hf_up ψ 17 1 w) 17 2 (r : Int) (17 + 8) l = ψ 25 l := by
        rw [hf_up_ne (fun z => absurd z.1 (by decide)), hf_up_ne (fun z => absurd z.1 (by decide))]
      rw [e, p5 l hl2]
      exact (f5 (172 + l) (by omega) (by omega) (by omega) (by omega)).symm
  have sb3 : SB_17 φ (r : Int) 17 3 = φ 17 3 := by
    unfold SB_17
    rw [hf_up_ne (fun z => absurd z.2 (by decide))]
    rfl
  have sbH : ∀ l, SB_17 φ (r : Int) 25 l = φ 25 l := fun l => rfl
  by_cases c1 : χ 194 100 = 0
  · rw [if_pos (Or.inl (by omega)), l1 (fun i a1 a2 a3 => by have := (hI.2 i (by omega)).1; omega)]
    exact key _ _ (fun _ _ _ _ => rfl) (fun _ _ _ => rfl) (fun _ _ _ => rfl) (sb3.trans s4) (fun l hl2 => (sbH l).trans (hhof l hl2))
  · have hix : ((χ 194 100 - 1) * 8 + w).toNat = 8 * (χ 194 100 - 1).toNat + w.toNat := by omega
    rw [hix]
    rcases hlo (χ 194 100 - 1).toNat w.toNat (by omega) (by omega) with ⟨q1, q2⟩ | ⟨i, q1, q2, q3, q4, q5⟩
    · have q1' : φ 16 (8 * (χ 194 100 - 1).toNat + w.toNat) = -1 := q1
      rw [if_pos (Or.inr q1'), l1 (fun i a1 a2 a3 => q2 i a2 ⟨by omega, by omega⟩)]
      exact key _ _ (fun _ _ _ _ => rfl) (fun _ _ _ => rfl) (fun _ _ _ => rfl) (sb3.trans s4) (fun l hl2 => (sbH l).trans (hhof l hl2))
    · have q2' : φ 16 (8 * (χ 194 100 - 1).toNat + w.toNat) = (i : Int) := q2
      rw [q2', if_neg (by omega), l2 i (by omega) q1 (by omega) (by omega) (fun j b1 b2 b3 b4 => q5 j b2 (by omega) (by omega))]
      obtain ⟨v1, v2, v3, v4⟩ := slaw_f χ i (by omega)
      have hcl' : φ 15 i = χ 194 (91 + i) := hcl i (by omega)
      rw [show ((i : Int)).toNat = i from rfl, hcl']
      refine key (hf_up (hf_up (SB_17 φ (r : Int)) 17 3 (hb_and (hb_or (φ 17 3) (hb_shl 1 (i : Int))) (hb_xor (χ 194 (91 + i)) (-1 : Int)))) 25 i (φ 25 i + 1)) (SLAW χ i) (fun a k a1 a2 => ?_) (fun k a1 a2 => v3 k a1 (by omega)) v4 ?_ (fun l hl2 => ?_)
      · rw [hf_up_ne (fun z => a2 z.1), hf_up_ne (fun z => a1 z)]
      · rw [v1, hf_up_ne (fun z => absurd z.1 (by decide)), hf_up_eq, show φ 17 3 = χ 194 102 from s4]
      · by_cases c : l = i
        · rw [c, hf_up_eq, v2, show φ 25 i = χ 194 (172 + i) from hhof i (by omega)]
        · rw [hf_up_ne (fun z => c z.2), v3 (172 + l) (by omega) (by omega), hf_up_ne (fun z => absurd z.1 (by decide)), sbH]
          exact hhof l hl2
noncomputable def SB_43 (φ : hf_F) (r : Int) : hf_F := hf_up (hf_up (hf_up φ 49 r.toNat (if φ 47 r.toNat ≤ φ 49 r.toNat + 1 then 0 else φ 49 r.toNat + 1)) 50 r.toNat (φ 50 r.toNat + 1)) 43 4 (φ 43 4 + 1)
theorem spk_e_43 (φ : hf_F) (r : Int) : F_State_speak_43_5 φ r = if φ 43 1 = -1 ∨ φ 16 ((φ 43 1) * 8 + φ 48 (r * 6 + φ 49 r.toNat).toNat).toNat = -1 then hf_up (hf_up (SB_43 φ r) 43 1 (φ 48 (r * 6 + φ 49 r.toNat).toNat)) 43 2 r
    else hf_up (hf_up (hf_up (hf_up (SB_43 φ r) 43 3 (hb_and (hb_or (φ 43 3) (hb_shl 1 (φ 16 ((φ 43 1) * 8 + φ 48 (r * 6 + φ 49 r.toNat).toNat).toNat))) (hb_xor (φ 15 (φ 16 ((φ 43 1) * 8 + φ 48 (r * 6 + φ 49 r.toNat).toNat).toNat).toNat) (-1 : Int)))) 51 (φ 16 ((φ 43 1) * 8 + φ 48 (r * 6 + φ 49 r.toNat).toNat).toNat).toNat (φ 51 (φ 16 ((φ 43 1) * 8 + φ 48 (r * 6 + φ 49 r.toNat).toNat).toNat).toNat + 1)) 43 1 (φ 48 (r * 6 + φ 49 r.toNat).toNat)) 43 2 r := by
  unfold F_State_speak_43_5 SB_43 F_State_rollWord_43
  rw [bnp_e rfl]
  by_cases c1 : φ 43 1 = -1
  · rw [if_pos (Or.inl c1)]
    by_cases c2 : φ 47 r.toNat ≤ φ 49 r.toNat + 1
    · rw [if_pos c2, if_neg (fun q => q c1), if_pos c2]
    · rw [if_neg c2, if_neg (fun q => q c1), if_neg c2]
  · by_cases c3 : φ 16 ((φ 43 1) * 8 + φ 48 (r * 6 + φ 49 r.toNat).toNat).toNat = -1
    · rw [if_pos (Or.inr c3)]
      by_cases c2 : φ 47 r.toNat ≤ φ 49 r.toNat + 1
      · rw [if_pos c2, if_pos c1, if_pos c3, if_pos c2]
      · rw [if_neg c2, if_pos c1, if_pos c3, if_neg c2]
    · rw [if_neg (show ¬ (φ 43 1 = -1 ∨ φ 16 ((φ 43 1) * 8 + φ 48 (r * 6 + φ 49 r.toNat).toNat).toNat = -1) from fun q => q.elim c1 c3)]
      by_cases c2 : φ 47 r.toNat ≤ φ 49 r.toNat + 1
      · rw [if_pos c2, if_pos c1, if_neg c3, if_pos c2]
      · rw [if_neg c2, if_pos c1, if_neg c3, if_neg c2]
theorem spk_43 {φ χ : hf_F} {r : Nat} (hr : r < 6) (hI : LB (χ 194)) (hlo : LOG 5 φ (χ 194)) (hcl : CLG 5 φ (χ 194)) (h : STN 43 φ (χ 194) (χ 194)) (hl : 0 < χ 194 (118 + r)) (h3 : (r : Int) < χ 194 3) :
    STN 43 (F_State_speak_43_5 φ (r : Int)) (χ 194) (F_RideLawsModel_saysOne_192 χ (r : Int) 194) ∧ (∀ k : Nat, ¬ (k = 100 ∨ k = 101 ∨ k = 102 ∨ k = 166 + r ∨ k = 160 + r ∨ (172 ≤ k ∧ k < 180)) → F_RideLawsModel_saysOne_192 χ (r : Int) 194 k = χ 194 k) ∧
    (∀ a k : Nat, ¬ a = 194 → F_RideLawsModel_saysOne_192 χ (r : Int) a k = χ a k) ∧ (∀ a k : Nat, ¬ (a = 43 ∨ a = 49 ∨ a = 50 ∨ a = 51) → F_State_speak_43_5 φ (r : Int) a k = φ a k) := by
  have cb := hI.1
  unfold CB at cb
  obtain ⟨⟨s1, s2, s3, s4, s5, s6, s7, s8⟩, hsit, hrol, hhof⟩ := h
  obtain ⟨r1, r2, r3, r4, r5, r6, r7, r8, r9⟩ := hrol r hr
  have hp : 0 ≤ χ 194 (160 + r) ∧ χ 194 (160 + r) < χ 194 (118 + r) := by omega
  have hw := r9 (χ 194 (160 + r)).toNat (by omega)
  rw [show 124 + 6 * r + (χ 194 (160 + r)).toNat = 124 + 6 * r + (χ 194 (160 + r)).toNat from rfl] at hw
  obtain ⟨w1, w2, w3⟩ := hw
  have eNX : φ 49 r = χ 194 (160 + r) := r3
  have eRL : φ 47 r = χ 194 (118 + r) := r2
  have eRO : φ 48 ((r : Int) * 6 + φ 49 ((r : Int)).toNat).toNat = χ 194 (124 + 6 * r + (χ 194 (160 + r)).toNat) := by
    rw [show ((r : Int)).toNat = r from rfl, eNX, show ((r : Int) * 6 + χ 194 (160 + r)).toNat = 6 * r + (χ 194 (160 + r)).toNat by omega]
    exact w1
  have hnw : F_RideLawsModel_nextWord_192 χ (r : Int) = χ 194 (124 + 6 * r + (χ 194 (160 + r)).toNat) := by
    unfold F_RideLawsModel_nextWord_192
    rw [show (118 + (r : Int)).toNat = 118 + r by omega, show (160 + (r : Int)).toNat = 160 + r by omega, if_pos (by omega), show (124 + 6 * (r : Int) + χ 194 (160 + r)).toNat = 124 + 6 * r + (χ 194 (160 + r)).toNat by omega]
  have hm : F_RideLawsModel_saysOne_192 χ (r : Int) = F_RideLawsModel_saysOne_192_l8 9 χ (r : Int) (χ 194 (124 + 6 * r + (χ 194 (160 + r)).toNat)) 0 := by
    unfold F_RideLawsModel_saysOne_192
    rw [bnp_e hnw]
    rfl
  rw [hm, spk_e_43, eRO]
  generalize χ 194 (124 + 6 * r + (χ 194 (160 + r)).toNat) = w at *
  obtain ⟨l1, l2⟩ := says_l 9 χ (r : Int) w 0 (by decide) (by decide) (by decide) (by omega)
  have e1 : φ 43 1 = χ 194 100 - 1 := s2
  rw [e1]
  -- the state behind the saying, out of what the laws do
  have key : ∀ (ψ ξ : hf_F), (∀ a k : Nat, ¬ (a = 43 ∧ k = 3) → ¬ a = 51 → ψ a k = SB_43 φ (r : Int) a k) → (∀ k : Nat, ¬ k = 102 → ¬ (172 ≤ k ∧ k < 180) → ξ 194 k = χ 194 k) → (∀ a k : Nat, ¬ a = 194 → ξ a k = χ a k) → ψ 43 3 = ξ 194 102 → (∀ l : Nat, l < 8 → ψ 51 l = ξ 194 (172 + l)) →
      STN 43 (hf_up (hf_up ψ 43 1 w) 43 2 (r : Int)) (χ 194) (SFIN ξ (r : Int) w 194) ∧ (∀ k : Nat, ¬ (k = 100 ∨ k = 101 ∨ k = 102 ∨ k = 166 + r ∨ k = 160 + r ∨ (172 ≤ k ∧ k < 180)) → SFIN ξ (r : Int) w 194 k = χ 194 k) ∧
      (∀ a k : Nat, ¬ a = 194 → SFIN ξ (r : Int) w a k = χ a k) ∧ (∀ a k : Nat, ¬ (a = 43 ∨ a = 49 ∨ a = 50 ∨ a = 51) → hf_up (hf_up ψ 43 1 w) 43 2 (r : Int) a k = φ a k) := by
    intro ψ ξ p1 p2 p3 p4 p5
    obtain ⟨f1, f2, f3, f4, f5, f6⟩ := sfin_f ξ r w hr
    have hk : ∀ k : Nat, ¬ k = 100 → ¬ k = 101 → ¬ k = 102 → ¬ k = 166 + r → ¬ k = 160 + r → ¬ (172 ≤ k ∧ k < 180) → SFIN ξ (r : Int) w 194 k = χ 194 k := fun k a1 a2 a3 a4 a5 a6 => (f5 k a1 a2 a4 a5).trans (p2 k a3 a6)
    have g166 : SFIN ξ (r : Int) w 194 (166 + r) = χ 194 (166 + r) + 1 := by rw [f3, p2 (166 + r) (by omega) (by omega)]
    have g160 : SFIN ξ (r : Int) w 194 (160 + r) = if χ 194 (118 + r) ≤ χ 194 (160 + r) + 1 then 0 else χ 194 (160 + r) + 1 := by rw [f4, p2 (160 + r) (by omega) (by omega), p2 (118 + r) (by omega) (by omega), plc_e hp.1 hp.2 r7.2]
    have bB : ∀ k : Nat, ¬ k = 1 → ¬ k = 2 → ¬ k = 3 → ¬ k = 4 → hf_up (hf_up ψ 43 1 w) 43 2 (r : Int) 43 k = φ 43 k := fun k a1 a2 a3 a4 => by
      rw [hf_up_ne (fun z => a2 z.2), hf_up_ne (fun z => a1 z.2), p1 43 k (fun z => a3 z.2) (by decide)]
      unfold SB_43
      rw [hf_up_ne (fun z => a4 z.2)]
      rfl
    have b4 : hf_up (hf_up ψ 43 1 w) 43 2 (r : Int) 43 4 = φ 43 4 + 1 := by
      rw [hf_up_ne (fun z => by omega), hf_up_ne (fun z => by omega), p1 43 4 (by decide) (by decide)]
      exact hf_up_eq
    have bNX : ∀ q : Nat, hf_up (hf_up ψ 43 1 w) 43 2 (r : Int) 49 q = if q = r then (if χ 194 (118 + r) ≤ χ 194 (160 + r) + 1 then 0 else χ 194 (160 + r) + 1) else φ 49 q := fun q => by
      rw [hf_up_ne (fun z => absurd z.1 (by decide)), hf_up_ne (fun z => absurd z.1 (by decide)), p1 49 q (by omega) (by decide)]
      show hf_up φ 49 ((r : Int)).toNat _ 49 q = _
      rw [show ((r : Int)).toNat = r from rfl, eNX, eRL]
      by_cases c : q = r
      · rw [if_pos c, c, hf_up_eq]
      · rw [if_neg c, hf_up_ne (fun z => c z.2)]
    have bSB : ∀ q : Nat, hf_up (hf_up ψ 43 1 w) 43 2 (r : Int) 50 q = if q = r then φ 50 r + 1 else φ 50 q := fun q => by
      rw [hf_up_ne (fun z => absurd z.1 (by decide)), hf_up_ne (fun z => absurd z.1 (by decide)), p1 50 q (by omega) (by decide)]
      show hf_up (hf_up φ 49 r _) 50 r (φ 50 r + 1) 50 q = _
      by_cases c : q = r
      · rw [if_pos c, c]; exact hf_up_eq
      · rw [if_neg c, hf_up_ne (fun z => c z.2)]; rfl
    have bO : ∀ a k : Nat, ¬ (a = 43 ∨ a = 49 ∨ a = 50 ∨ a = 51) → hf_up (hf_up ψ 43 1 w) 43 2 (r : Int) a k = φ a k := fun a k ha => by
      rw [hf_up_ne (fun z => ha (Or.inl z.1)), hf_up_ne (fun z => ha (Or.inl z.1)), p1 a k (fun z => ha (Or.inl z.1)) (fun z => ha (Or.inr (Or.inr (Or.inr z))))]
      unfold SB_43
      rw [hf_up_ne (fun z => ha (Or.inl z.1)), hf_up_ne (fun z => ha (Or.inr (Or.inr (Or.inl z.1)))), hf_up_ne (fun z => ha (Or.inr (Or.inl z.1)))]
    refine ⟨⟨⟨?_, ?_, ?_, ?_, ?_, ?_, ?_, ?_⟩, ?_, ?_, ?_⟩, fun k hk2 => hk k (by omega) (by omega) (by omega) (by omega) (by omega) (by omega), fun a k ha => (f6 a k ha).trans (p3 a k ha), bO⟩
    · rw [bB 0 (by decide) (by decide) (by decide) (by decide), hk 99 (by omega) (by omega) (by omega) (by omega) (by omega) (by omega)]; exact s1
    · rw [f1, hf_up_ne (fun z => by omega), hf_up_eq]; omega
    · rw [f2, hf_up_eq]; omega
    · rw [hf_up_ne (fun z => by omega), hf_up_ne (fun z => by omega), p4]
      exact (f5 102 (by omega) (by omega) (by omega) (by omega)).symm
    · rw [bB 5 (by decide) (by decide) (by decide) (by decide), hk 103 (by omega) (by omega) (by omega) (by omega) (by omega) (by omega)]; exact s5
    · rw [b4, s6]
      have u : ∀ q : Nat, q < 6 → ¬ q = r → SFIN ξ (r : Int) w 194 (166 + q) = χ 194 (166 + q) := fun q hq hne => hk _ (by omega) (by omega) (by omega) (by omega) (by omega) (by omega)
      have hr6 : r = 0 ∨ r = 1 ∨ r = 2 ∨ r = 3 ∨ r = 4 ∨ r = 5 := by omega
      rcases hr6 with rfl | rfl | rfl | rfl | rfl | rfl
      · have g : SFIN ξ ((0 : Nat) : Int) w 194 166 = χ 194 166 + 1 := g166
        have h1 : SFIN ξ ((0 : Nat) : Int) w 194 167 = χ 194 167 := u 1 (by decide) (by decide)
        have h2 : SFIN ξ ((0 : Nat) : Int) w 194 168 = χ 194 168 := u 2 (by decide) (by decide)
        have h3 : SFIN ξ ((0 : Nat) : Int) w 194 169 = χ 194 169 := u 3 (by decide) (by decide)
        have h4 : SFIN ξ ((0 : Nat) : Int) w 194 170 = χ 194 170 := u 4 (by decide) (by decide)
        have h5 : SFIN ξ ((0 : Nat) : Int) w 194 171 = χ 194 171 := u 5 (by decide) (by decide)
        omega
      · have g : SFIN ξ ((1 : Nat) : Int) w 194 167 = χ 194 167 + 1 := g166
        have h0 : SFIN ξ ((1 : Nat) : Int) w 194 166 = χ 194 166 := u 0 (by decide) (by decide)
        have h2 : SFIN ξ ((1 : Nat) : Int) w 194 168 = χ 194 168 := u 2 (by decide) (by decide)
        have h3 : SFIN ξ ((1 : Nat) : Int) w 194 169 = χ 194 169 := u 3 (by decide) (by decide)
        have h4 : SFIN ξ ((1 : Nat) : Int) w 194 170 = χ 194 170 := u 4 (by decide) (by decide)
        have h5 : SFIN ξ ((1 : Nat) : Int) w 194 171 = χ 194 171 := u 5 (by decide) (by decide)
        omega
      · have g : SFIN ξ ((2 : Nat) : Int) w 194 168 = χ 194 168 + 1 := g166
        have h0 : SFIN ξ ((2 : Nat) : Int) w 194 166 = χ 194 166 := u 0 (by decide) (by decide)
        have h1 : SFIN ξ ((2 : Nat) : Int) w 194 167 = χ 194 167 := u 1 (by decide) (by decide)
        have h3 : SFIN ξ ((2 : Nat) : Int) w 194 169 = χ 194 169 := u 3 (by decide) (by decide)
        have h4 : SFIN ξ ((2 : Nat) : Int) w 194 170 = χ 194 170 := u 4 (by decide) (by decide)
        have h5 : SFIN ξ ((2 : Nat) : Int) w 194 171 = χ 194 171 := u 5 (by decide) (by decide)
        omega
      · have g : SFIN ξ ((3 : Nat) : Int) w 194 169 = χ 194 169 + 1 := g166
        have h0 : SFIN ξ ((3 : Nat) : Int) w 194 166 = χ 194 166 := u 0 (by decide) (by decide)
        have h1 : SFIN ξ ((3 : Nat) : Int) w 194 167 = χ 194 167 := u 1 (by decide) (by decide)
        have h2 : SFIN ξ ((3 : Nat) : Int) w 194 168 = χ 194 168 := u 2 (by decide) (by decide)
        have h4 : SFIN ξ ((3 : Nat) : Int) w 194 170 = χ 194 170 := u 4 (by decide) (by decide)
        have h5 : SFIN ξ ((3 : Nat) : Int) w 194 171 = χ 194 171 := u 5 (by decide) (by decide)
        omega
      · have g : SFIN ξ ((4 : Nat) : Int) w 194 170 = χ 194 170 + 1 := g166
        have h0 : SFIN ξ ((4 : Nat) : Int) w 194 166 = χ 194 166 := u 0 (by decide) (by decide)
        have h1 : SFIN ξ ((4 : Nat) : Int) w 194 167 = χ 194 167 := u 1 (by decide) (by decide)
        have h2 : SFIN ξ ((4 : Nat) : Int) w 194 168 = χ 194 168 := u 2 (by decide) (by decide)
        have h3 : SFIN ξ ((4 : Nat) : Int) w 194 169 = χ 194 169 := u 3 (by decide) (by decide)
        have h5 : SFIN ξ ((4 : Nat) : Int) w 194 171 = χ 194 171 := u 5 (by decide) (by decide)
        omega
      · have g : SFIN ξ ((5 : Nat) : Int) w 194 171 = χ 194 171 + 1 := g166
        have h0 : SFIN ξ ((5 : Nat) : Int) w 194 166 = χ 194 166 := u 0 (by decide) (by decide)
        have h1 : SFIN ξ ((5 : Nat) : Int) w 194 167 = χ 194 167 := u 1 (by decide) (by decide)
        have h2 : SFIN ξ ((5 : Nat) : Int) w 194 168 = χ 194 168 := u 2 (by decide) (by decide)
        have h3 : SFIN ξ ((5 : Nat) : Int) w 194 169 = χ 194 169 := u 3 (by decide) (by decide)
        have h4 : SFIN ξ ((5 : Nat) : Int) w 194 170 = χ 194 170 := u 4 (by decide) (by decide)
        omega
    · rw [f1]; omega
    · rw [f2]; omega
    · intro v hv
      have e : hf_up (hf_up ψ 43 1 w) 43 2 (r : Int) (43 + 2) v = φ (43 + 2) v := bO _ _ (by decide)
      rw [e]
      have u : ∀ q : Nat, q < 6 → SFIN ξ (r : Int) w 194 (112 + q) = χ 194 (112 + q) := fun q hq => hk _ (by omega) (by omega) (by omega) (by omega) (by omega) (by omega)
      rcases hsit v hv with ⟨q1, q2⟩ | ⟨q, q1, q2, q3, q4⟩
      · exact Or.inl ⟨q1, fun q hq => by rw [u q hq]; exact q2 q hq⟩
      · exact Or.inr ⟨q, q1, q2, by rw [u q q1]; exact q3, fun p hp2 => by rw [u p hp2]; exact q4 p hp2⟩
    · intro q hq
      obtain ⟨t1, t2, t3, t4, t5, t6, t7, t8, t9⟩ := hrol q hq
      have u112 : SFIN ξ (r : Int) w 194 (112 + q) = χ 194 (112 + q) := hk _ (by omega) (by omega) (by omega) (by omega) (by omega) (by omega)
      have u118 : SFIN ξ (r : Int) w 194 (118 + q) = χ 194 (118 + q) := hk _ (by omega) (by omega) (by omega) (by omega) (by omega) (by omega)
      have u124 : ∀ k : Nat, (k : Int) < χ 194 (118 + q) → SFIN ξ (r : Int) w 194 (124 + 6 * q + k) = χ 194 (124 + 6 * q + k) := fun k hk2 => hk _ (by omega) (by omega) (by omega) (by omega) (by omega) (by omega)
      unfold ROL
      rw [u112, u118]
      have c3 : hf_up (hf_up ψ 43 1 w) 43 2 (r : Int) (43 + 3) q = φ (43 + 3) q := bO _ _ (by decide)
      have c4 : hf_up (hf_up ψ 43 1 w) 43 2 (r : Int) (43 + 4) q = φ (43 + 4) q := bO _ _ (by decide)
      have c5 : ∀ k, hf_up (hf_up ψ 43 1 w) 43 2 (r : Int) (43 + 5) k = φ (43 + 5) k := fun k => bO _ _ (by decide)
      have c6 : hf_up (hf_up ψ 43 1 w) 43 2 (r : Int) (43 + 6) q = if q = r then (if χ 194 (118 + r) ≤ χ 194 (160 + r) + 1 then 0 else χ 194 (160 + r) + 1) else φ 49 q := bNX q
      have c7 : hf_up (hf_up ψ 43 1 w) 43 2 (r : Int) (43 + 7) q = if q = r then φ 50 r + 1 else φ 50 q := bSB q
      rw [c3, c4, c6, c7]
      by_cases c : q = r
      · subst c
        rw [if_pos rfl, if_pos rfl, g160, g166]
        have t4' : φ 50 q = χ 194 (166 + q) := t4
        refine ⟨t1, t2, rfl, by omega, fun z => by omega, t6, t7, ?_, fun k hk2 => ?_⟩
        · split <;> omega
        · rw [c5, u124 k hk2]; exact t9 k hk2
      · rw [if_neg c, if_neg c, hk (160 + q) (by omega) (by omega) (by omega) (by omega) (by omega) (by omega), hk (166 + q) (by omega) (by omega) (by omega) (by omega) (by omega) (by omega)]
        refine ⟨t1, t2, t3, t4, t5, t6, t7, t8, fun k hk2 => ?_⟩
        rw [c5, u124 k hk2]; exact t9 k hk2
    · intro l hl2
      have e : hf_up (hf_up ψ 43 1 w) 43 2 (r : Int) (43 + 8) l = ψ 51 l := by
        rw [hf_up_ne (fun z => absurd z.1 (by decide)), hf_up_ne (fun z => absurd z.1 (by decide))]
      rw [e, p5 l hl2]
      exact (f5 (172 + l) (by omega) (by omega) (by omega) (by omega)).symm
  have sb3 : SB_43 φ (r : Int) 43 3 = φ 43 3 := by
    unfold SB_43
    rw [hf_up_ne (fun z => absurd z.2 (by decide))]
    rfl
  have sbH : ∀ l, SB_43 φ (r : Int) 51 l = φ 51 l := fun l => rfl
  by_cases c1 : χ 194 100 = 0
  · rw [if_pos (Or.inl (by omega)), l1 (fun i a1 a2 a3 => by have := (hI.2 i (by omega)).1; omega)]
    exact key _ _ (fun _ _ _ _ => rfl) (fun _ _ _ => rfl) (fun _ _ _ => rfl) (sb3.trans s4) (fun l hl2 => (sbH l).trans (hhof l hl2))
  · have hix : ((χ 194 100 - 1) * 8 + w).toNat = 8 * (χ 194 100 - 1).toNat + w.toNat := by omega
    rw [hix]
    rcases hlo (χ 194 100 - 1).toNat w.toNat (by omega) (by omega) with ⟨q1, q2⟩ | ⟨i, q1, q2, q3, q4, q5⟩
    · have q1' : φ 16 (8 * (χ 194 100 - 1).toNat + w.toNat) = -1 := q1
      rw [if_pos (Or.inr q1'), l1 (fun i a1 a2 a3 => q2 i a2 ⟨by omega, by omega⟩)]
      exact key _ _ (fun _ _ _ _ => rfl) (fun _ _ _ => rfl) (fun _ _ _ => rfl) (sb3.trans s4) (fun l hl2 => (sbH l).trans (hhof l hl2))
    · have q2' : φ 16 (8 * (χ 194 100 - 1).toNat + w.toNat) = (i : Int) := q2
      rw [q2', if_neg (by omega), l2 i (by omega) q1 (by omega) (by omega) (fun j b1 b2 b3 b4 => q5 j b2 (by omega) (by omega))]
      obtain ⟨v1, v2, v3, v4⟩ := slaw_f χ i (by omega)
      have hcl' : φ 15 i = χ 194 (91 + i) := hcl i (by omega)
      rw [show ((i : Int)).toNat = i from rfl, hcl']
      refine key (hf_up (hf_up (SB_43 φ (r : Int)) 43 3 (hb_and (hb_or (φ 43 3) (hb_shl 1 (i : Int))) (hb_xor (χ 194 (91 + i)) (-1 : Int)))) 51 i (φ 51 i + 1)) (SLAW χ i) (fun a k a1 a2 => ?_) (fun k a1 a2 => v3 k a1 (by omega)) v4 ?_ (fun l hl2 => ?_)
      · rw [hf_up_ne (fun z => a2 z.1), hf_up_ne (fun z => a1 z)]
      · rw [v1, hf_up_ne (fun z => absurd z.1 (by decide)), hf_up_eq, show φ 43 3 = χ 194 102 from s4]
      · by_cases c : l = i
        · rw [c, hf_up_eq, v2, show φ 51 i = χ 194 (172 + i) from hhof i (by omega)]
        · rw [hf_up_ne (fun z => c z.2), v3 (172 + l) (by omega) (by omega), hf_up_ne (fun z => absurd z.1 (by decide)), sbH]
          exact hhof l hl2
