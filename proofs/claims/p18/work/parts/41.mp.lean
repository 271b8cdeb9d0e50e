/-! a line takes two bytes at least -/
theorem l181_k : ∀ (n : Nat) (χ : hf_F) (c s a : Int), 940 - χ 192 4 < n → χ 192 3 ≤ 940 → χ 192 4 ≤ F_RideLawsModel_next_192_l181 n χ c s a 192 4 ∧
    (((97 ≤ pk χ ∧ pk χ ≤ 122) ∨ (48 ≤ pk χ ∧ pk χ ≤ 57)) → χ 192 4 < F_RideLawsModel_next_192_l181 n χ c s a 192 4) := by
  intro n
  induction n with
  | zero =>
    intro χ c s a h1 h2
    have hp := pk_b χ
    exact ⟨Int.le_refl _, fun q => by omega⟩
  | succ n ih =>
    intro χ c s a h1 h2
    obtain ⟨f1, f2, f3, f4, f5, f6, f7, f8⟩ := MU_f (χ := χ)
    rw [mrun_s]
    by_cases q : (97 ≤ pk χ ∧ pk χ ≤ 122) ∨ (48 ≤ pk χ ∧ pk χ ≤ 57)
    · rw [if_pos q]
      have := ih (MU χ) c s (if a = 0 then 0 else if F_RideLawsModel_isSmall χ (pk χ) = s then 1 else 0) (by omega) (by omega)
      rw [f1] at this
      exact ⟨by omega, fun _ => by omega⟩
    · rw [if_neg q]
      exact ⟨Int.le_refl _, fun w => absurd w q⟩
theorem nx_p {χ : hf_F} (h : χ 192 3 ≤ 940) : χ 192 4 ≤ NX χ 192 4 ∧ (¬ NX χ 192 11 = 0 → ¬ NX χ 192 11 = 4 → χ 192 4 < NX χ 192 4) := by
  unfold NX
  by_cases c1 : χ 192 5 < χ 192 3 ∧ χ 192 5 ≤ χ 192 4
  · rw [if_pos c1]
    exact ⟨Int.le_refl _, fun _ q => absurd rfl q⟩
  · rw [if_neg c1]
    by_cases c2 : pk χ < 0
    · rw [if_pos c2]
      exact ⟨Int.le_refl _, fun q _ => absurd rfl q⟩
    · rw [if_neg c2]
      by_cases c3 : (97 ≤ pk χ ∧ pk χ ≤ 122) ∨ (48 ≤ pk χ ∧ pk χ ≤ 57)
      · rw [if_pos c3]
        have hk := l181_k ((940 - χ 192 4 : Int).toNat + 1) (hf_up (hf_up (hf_up (hf_up χ 192 12 (χ 192 4)) 192 13 0) 192 17 0) 192 14 0) (pk χ) (if 97 ≤ pk χ ∧ pk χ ≤ 122 then 1 else 0) 1 (by show 940 - χ 192 4 < _; omega) h
        exact ⟨hk.1, fun _ _ => hk.2 c3⟩
      · rw [if_neg c3]
        by_cases c4 : SGN (pk χ)
        · rw [if_pos c4]
          exact ⟨by show χ 192 4 ≤ χ 192 4 + 1; omega, fun _ _ => by show χ 192 4 < χ 192 4 + 1; omega⟩
        · rw [if_neg c4]
          exact ⟨by show χ 192 4 ≤ χ 192 4 + 1; omega, fun _ q => absurd rfl q⟩
theorem next_r : ∀ (n : Nat) (χ : hf_F), 940 - χ 192 4 < n → χ 192 3 ≤ 940 → χ 192 4 ≤ F_RideLawsModel_next_192_l0 n χ 192 4 ∧ (¬ F_RideLawsModel_next_192_l0 n χ 192 11 = 0 → ¬ F_RideLawsModel_next_192_l0 n χ 192 11 = 4 → 1 ≤ n → χ 192 4 < F_RideLawsModel_next_192_l0 n χ 192 4) := by
  intro n
  induction n with
  | zero => intro χ h1 h2; exact ⟨Int.le_refl _, fun _ _ q => absurd q (by decide)⟩
  | succ n ih =>
    intro χ h1 h2
    rw [next_s]
    by_cases c : pk χ = 32 ∨ pk χ = 10
    · have hp := pk_b χ
      rw [if_pos c]
      have := ih (hf_up χ 192 4 (χ 192 4 + 1)) (by show 940 - (χ 192 4 + 1) < _; omega) h2
      have h3 : χ 192 4 + 1 ≤ F_RideLawsModel_next_192_l0 n (hf_up χ 192 4 (χ 192 4 + 1)) 192 4 := this.1
      exact ⟨by omega, fun _ _ _ => by omega⟩
    · rw [if_neg c]
      have := nx_p h2
      exact ⟨this.1, fun q1 q2 _ => this.2 q1 q2⟩
theorem next_p {χ ξ : hf_F} (hI : Inv χ) (e : F_RideLawsModel_next_192 χ = ξ) : χ 192 4 ≤ ξ 192 4 ∧ (¬ ξ 192 11 = 0 → ¬ ξ 192 11 = 4 → χ 192 4 < ξ 192 4) := by
  subst e
  rw [next_0]
  have h3 := iv_at (a := 192) (k := 3) (lo := 0) (u := 940) hI (by decide +kernel)
  have := next_r ((940 - (hf_up χ 192 4 ((χ 192 4) + 1)) 192 4 : Int).toNat + 1 + 1) χ (by show 940 - χ 192 4 < (((940 - (χ 192 4 + 1) : Int).toNat + 1 + 1 : Nat) : Int); omega) h3.2
  exact ⟨this.1, fun a b => this.2 a b (by omega)⟩
theorem isnm_w {χ : hf_F} (h : ¬ F_RideLawsModel_isName_192 χ = 0) : χ 192 11 = 1 := by
  refine Classical.byContradiction (fun q => h ?_)
  unfold F_RideLawsModel_isName_192
  rw [if_pos q]
  have : ∀ n : Nat, ∀ l2 : Int, F_RideLawsModel_isName_192_l16 n χ 0 l2 = 0 := by
    intro n
    induction n with
    | zero => intro l2; rfl
    | succ n ih =>
      intro l2
      rw [F_RideLawsModel_isName_192_l16_s, if_pos (rfl : (0 : Int) = 0), ih]
      split <;> rfl
  exact this _ 0
theorem bad_0 {χ ξ : hf_F} {k r : Int} (e : bnd (F_RideLawsModel_bad_192 χ k) (fun z ψ => (z, ψ)) = (r, ξ)) : r = 0 := by
  unfold F_RideLawsModel_bad_192 at e
  rw [bnd_e rfl] at e
  cases e
  rfl
theorem fresh_p {χ ξ : hf_F} {v r : Int} (e : F_RideLawsModel_fresh_192 χ v = (r, ξ)) (h : ¬ r = 0) : χ 192 11 = 1 := by
  refine Classical.byContradiction (fun q => h ?_)
  unfold F_RideLawsModel_fresh_192 at e
  have hz : F_RideLawsModel_isName_192 χ = 0 := Classical.byContradiction (fun w => q (isnm_w w))
  rw [bnp_e rfl, if_neg (fun w => w hz)] at e
  exact bad_0 e
theorem looks_p {χ ξ : hf_F} {a b r : Int} (e : F_RideLawsModel_looksAt_192 χ a b = (r, ξ)) (h : ¬ r = 0) : χ 192 11 = 1 := by
  refine Classical.byContradiction (fun q => h ?_)
  unfold F_RideLawsModel_looksAt_192 at e
  have hz : F_RideLawsModel_isName_192 χ = 0 := Classical.byContradiction (fun w => q (isnm_w w))
  rw [bnp_e rfl, if_neg (fun w => w hz)] at e
  exact bad_0 e
theorem tname_p {χ ξ : hf_F} {a b r : Int} (e : F_RideLawsModel_takesName_192 χ a b = (r, ξ)) (h : ¬ r = 0) : χ 192 11 = 1 := by
  unfold F_RideLawsModel_takesName_192 at e
  obtain ⟨z1, ξ1, g1⟩ : ∃ x y, F_RideLawsModel_looksAt_192 χ a b = (x, y) := ⟨_, _, rfl⟩
  rw [bnd_e g1] at e
  by_cases c : z1 = 0
  · rw [if_neg (fun q => q c)] at e
    cases e
    exact absurd rfl h
  · exact looks_p g1 c
/-- two bytes -/
noncomputable def P2 (χ ξ : hf_F) : Prop := ξ 192 11 = 3 → χ 192 4 + 2 ≤ ξ 192 4
theorem ring_p {χ ξ : hf_F} {r : Int} (hI : Inv χ) (e : F_RideLawsModel_readRing_192 χ = (r, ξ)) (h : ¬ r = 0) : P2 χ ξ := by
  unfold F_RideLawsModel_readRing_192 at e
  have b := ctb hI
  unfold CTB at b
  by_cases c0 : χ 195 0 = 3
  · rw [if_neg (fun q => q c0)] at e
    exact absurd (bad_0 e) h
  rw [if_pos c0, bnv_e rfl] at e
  have n1 := next_p hI rfl
  have k1 := K_F_RideLawsModel_next_192 hI rfl
  generalize F_RideLawsModel_next_192 χ = ξ1 at e n1 k1
  obtain ⟨z2, ξ2, g2⟩ : ∃ x y, F_RideLawsModel_fresh_192 ξ1 (33 + χ 195 0) = (x, y) := ⟨_, _, rfl⟩
  rw [bnd_e g2] at e
  have k2 := K_F_RideLawsModel_fresh_192 k1.1 (by omega) (by omega) g2
  by_cases c2 : z2 = 0
  · rw [if_pos c2] at e; cases e; exact absurd rfl h
  rw [if_neg c2] at e
  have p2 := fresh_p g2 c2
  obtain ⟨z3, ξ3, g3⟩ : ∃ x y, F_RideLawsModel_puts_192_k2_2_k3_30 ξ2 (5 + χ 195 0) = (x, y) := ⟨_, _, rfl⟩
  rw [bnd_e g3] at e
  have k3 := K_F_RideLawsModel_puts_192_k2_2_k3_30 k2.1 (by omega) (by omega) g3
  by_cases c3 : z3 = 0
  · rw [if_pos c3] at e; cases e; exact absurd rfl h
  rw [if_neg c3] at e
  obtain ⟨z4, ξ4, g4⟩ : ∃ x y, F_RideLawsModel_puts_192_k2_1_k3_9 ξ3 (8 + χ 195 0) = (x, y) := ⟨_, _, rfl⟩
  rw [bnd_e g4] at e
  have k4 := K_F_RideLawsModel_puts_192_k2_1_k3_9 k3.1 (by omega) (by omega) g4
  by_cases c4 : z4 = 0
  · rw [if_neg (fun q => q c4)] at e; cases e; exact absurd rfl h
  rw [if_pos c4] at e
  cases e
  intro q
  have q : ξ4 192 11 = 3 := q
  show χ 192 4 + 2 ≤ ξ4 192 4
  have := k4.2.2.2.2.2.1 (by omega) q
  have := k3.2.2.2.2.1
  have := k2.2.2.2.2.1
  have := n1.2 (by omega) (by omega)
  omega
theorem wd_p {χ ξ : hf_F} {r : Int} (hI : Inv χ) (e : F_RideLawsModel_readWord_192 χ = (r, ξ)) (h : ¬ r = 0) : P2 χ ξ := by
  unfold F_RideLawsModel_readWord_192 at e
  have b := ctb hI
  unfold CTB at b
  by_cases c0 : χ 195 2 = 8
  · rw [if_neg (fun q => q c0)] at e
    exact absurd (bad_0 e) h
  rw [if_pos c0, bnv_e rfl] at e
  have n1 := next_p hI rfl
  have k1 := K_F_RideLawsModel_next_192 hI rfl
  generalize F_RideLawsModel_next_192 χ = ξ1 at e n1 k1
  obtain ⟨z2, ξ2, g2⟩ : ∃ x y, F_RideLawsModel_fresh_192 ξ1 (44 + χ 195 2) = (x, y) := ⟨_, _, rfl⟩
  rw [bnd_e g2] at e
  have k2 := K_F_RideLawsModel_fresh_192 k1.1 (by omega) (by omega) g2
  by_cases c2 : z2 = 0
  · rw [if_neg (fun q => q c2)] at e; cases e; exact absurd rfl h
  rw [if_pos c2] at e
  have p2 := fresh_p g2 c2
  cases e
  intro q
  have q : ξ2 192 11 = 3 := q
  show χ 192 4 + 2 ≤ ξ2 192 4
  have := k2.2.2.2.2.2 (by omega) q
  have := n1.2 (by omega) (by omega)
  omega
theorem seat_p {χ ξ : hf_F} {r : Int} (hI : Inv χ) (e : F_RideLawsModel_readSeat_192 χ = (r, ξ)) (h : ¬ r = 0) : P2 χ ξ := by
  unfold F_RideLawsModel_readSeat_192 at e
  have b := ctb hI
  unfold CTB at b
  by_cases c0 : χ 195 1 = 8
  · rw [if_neg (fun q => q c0)] at e
    exact absurd (bad_0 e) h
  rw [if_pos c0, bnv_e rfl] at e
  have n1 := next_p hI rfl
  have k1 := K_F_RideLawsModel_next_192 hI rfl
  generalize F_RideLawsModel_next_192 χ = ξ1 at e n1 k1
  obtain ⟨z2, ξ2, g2⟩ : ∃ x y, F_RideLawsModel_fresh_192 ξ1 (36 + χ 195 1) = (x, y) := ⟨_, _, rfl⟩
  rw [bnd_e g2] at e
  have k2 := K_F_RideLawsModel_fresh_192 k1.1 (by omega) (by omega) g2
  by_cases c2 : z2 = 0
  · rw [if_pos c2] at e; cases e; exact absurd rfl h
  rw [if_neg c2] at e
  have p2 := fresh_p g2 c2
  have b2 := ctb k2.1
  unfold CTB at b2
  obtain ⟨z3, ξ3, g3⟩ : ∃ x y, F_RideLawsModel_takesName_192 ξ2 33 (ξ2 195 0) = (x, y) := ⟨_, _, rfl⟩
  rw [bnd_e g3] at e
  have k3 := K_F_RideLawsModel_takesName_192 k2.1 (by omega) (by omega) (by omega) (by omega) (by omega) g3
  by_cases c3 : z3 = 0
  · rw [if_neg (fun q => q c3)] at e; cases e; exact absurd rfl h
  rw [if_pos c3] at e
  by_cases c4 : ξ3 192 11 = 2
  · rw [if_pos c4] at e
    by_cases c5 : ξ3 192 14 < ξ3 195 (5 + ξ3 192 18).toNat
    · rw [if_pos c5] at e
      rcases mseat_l 9 ξ3 (χ 195 1) (ξ3 192 18) 0 (by decide) (by decide) (by decide) (by omega) with ⟨j1, _⟩ | ⟨j1, _⟩
      · rw [show (8 - 0 : Int).toNat + 1 = 9 from rfl, j1] at e
        have e195 : ξ3 195 1 = χ 195 1 := by
          rw [fr_at k3.2.1 195 (by decide), fr_at k2.2.1 195 (by decide), fr_at k1.2.1 195 (by decide)]
        have hg := k3.2.2.2.2.1.1 (by omega)
        have i2 : Inv (hf_up (hf_up ξ3 195 (11 + χ 195 1).toNat (ξ3 192 18)) 195 (19 + χ 195 1).toNat (ξ3 192 14)) := by
          have i1 : Inv (hf_up ξ3 195 (11 + χ 195 1).toNat (ξ3 192 18)) := iv_seat1 k3.1 (by rw [e195]) (by omega) (by omega) (by omega)
          have n14 := iv_at (a := 192) (k := 14) (lo := 0) (u := 8214) k3.1 (by decide +kernel)
          have st := iv_ar (a := 195) (s := 5) (t := 8) (lo := 0) (u := 30) (z := 5 + ξ3 192 18) k3.1 (by decide +kernel) (by omega) (by omega)
          exact iv_upI (s := 19) (t := 27) (lo := 0) (u := 29) (z := 19 + χ 195 1) i1 (by decide +kernel) (by omega) (by omega) (by omega) (by omega)
        have n4 := next_p i2 rfl
        cases e
        intro q
        have n5 := n4.2 (by intro w; rw [show hf_up (F_RideLawsModel_next_192 (hf_up (hf_up ξ3 195 (11 + χ 195 1).toNat (ξ3 192 18)) 195 (19 + χ 195 1).toNat (ξ3 192 14))) 195 1 (F_RideLawsModel_next_192 (hf_up (hf_up ξ3 195 (11 + χ 195 1).toNat (ξ3 192 18)) 195 (19 + χ 195 1).toNat (ξ3 192 14)) 195 1 + 1) 192 11 = _ from w] at q; cases q) (by intro w; rw [show hf_up (F_RideLawsModel_next_192 (hf_up (hf_up ξ3 195 (11 + χ 195 1).toNat (ξ3 192 18)) 195 (19 + χ 195 1).toNat (ξ3 192 14))) 195 1 (F_RideLawsModel_next_192 (hf_up (hf_up ξ3 195 (11 + χ 195 1).toNat (ξ3 192 18)) 195 (19 + χ 195 1).toNat (ξ3 192 14)) 195 1 + 1) 192 11 = _ from w] at q; cases q)
        show χ 192 4 + 2 ≤ F_RideLawsModel_next_192 (hf_up (hf_up ξ3 195 (11 + χ 195 1).toNat (ξ3 192 18)) 195 (19 + χ 195 1).toNat (ξ3 192 14)) 192 4
        have n6 : ξ3 192 4 < F_RideLawsModel_next_192 (hf_up (hf_up ξ3 195 (11 + χ 195 1).toNat (ξ3 192 18)) 195 (19 + χ 195 1).toNat (ξ3 192 14)) 192 4 := n5
        have := k3.2.2.2.2.1.2
        have := k2.2.2.2.2.1
        have := n1.2 (by omega) (by omega)
        omega
      · rw [show (8 - 0 : Int).toNat + 1 = 9 from rfl, j1] at e
        unfold F_RideLawsModel_bad_192 at e
        cases e
        exact absurd rfl h
    · rw [if_neg c5] at e
      exact absurd (bad_0 e) h
  · rw [if_neg c4] at e
    exact absurd (bad_0 e) h
theorem rid_p {χ ξ : hf_F} {r : Int} (hI : Inv χ) (e : F_RideLawsModel_readRider_192 χ = (r, ξ)) (h : ¬ r = 0) : P2 χ ξ := by
  unfold F_RideLawsModel_readRider_192 at e
  have b := ctb hI
  unfold CTB at b
  by_cases c0 : χ 195 3 = 6
  · rw [if_neg (fun q => q c0)] at e
    exact absurd (bad_0 e) h
  rw [if_pos c0, bnv_e rfl] at e
  have n1 := next_p hI rfl
  have k1 := K_F_RideLawsModel_next_192 hI rfl
  generalize F_RideLawsModel_next_192 χ = ξ1 at e n1 k1
  obtain ⟨z2, ξ2, g2⟩ : ∃ x y, F_RideLawsModel_fresh_192 ξ1 (52 + χ 195 3) = (x, y) := ⟨_, _, rfl⟩
  rw [bnd_e g2] at e
  have k2 := K_F_RideLawsModel_fresh_192 k1.1 (by omega) (by omega) g2
  by_cases c2 : z2 = 0
  · rw [if_neg (fun q => q c2)] at e; cases e; exact absurd rfl h
  rw [if_pos c2] at e
  have p2 := fresh_p g2 c2
  by_cases c3 : ξ2 192 11 = 1
  · rw [if_neg (fun q => q c3)] at e
    have b2 := ctb k2.1
    unfold CTB at b2
    obtain ⟨z3, ξ3, g3⟩ : ∃ x y, F_RideLawsModel_looksAt_192 ξ2 36 (ξ2 195 1) = (x, y) := ⟨_, _, rfl⟩
    rw [bnd_e g3] at e
    have k3 := K_F_RideLawsModel_looksAt_192 k2.1 (by omega) (by omega) (by omega) (by omega) (by omega) g3
    by_cases c4 : z3 = 0
    · rw [if_neg (fun q => q c4)] at e; cases e; exact absurd rfl h
    rw [if_pos c4] at e
    rcases mrid_l 7 ξ3 (χ 195 3) 0 (by decide) (by decide) (by decide) (by omega) with ⟨j1, _⟩ | ⟨j1, _⟩
    · rw [show (6 - 0 : Int).toNat + 1 = 7 from rfl, j1] at e
      have hg := k3.2.2.2.2.1.1.1 (by omega)
      have i2 : Inv (hf_up ξ3 195 (27 + χ 195 3).toNat (ξ3 192 18 + 1)) := iv_upI (s := 27) (t := 33) (lo := 0) (u := 8) (z := 27 + χ 195 3) k3.1 (by decide +kernel) (by omega) (by omega) (by omega) (by omega)
      have n4 := next_p i2 rfl
      cases e
      intro q
      have q : F_RideLawsModel_next_192 (hf_up ξ3 195 (27 + χ 195 3).toNat (ξ3 192 18 + 1)) 192 11 = 3 := q
      have n5 := n4.2 (by omega) (by omega)
      show χ 192 4 + 2 ≤ F_RideLawsModel_next_192 (hf_up ξ3 195 (27 + χ 195 3).toNat (ξ3 192 18 + 1)) 192 4
      have n6 : ξ3 192 4 < F_RideLawsModel_next_192 (hf_up ξ3 195 (27 + χ 195 3).toNat (ξ3 192 18 + 1)) 192 4 := n5
      have := k3.2.2.2.2.1.1.2
      have := k2.2.2.2.2.1
      have := n1.2 (by omega) (by omega)
      omega
    · rw [show (6 - 0 : Int).toNat + 1 = 7 from rfl, j1] at e
      unfold F_RideLawsModel_bad_192 at e
      cases e
      exact absurd rfl h
  · rw [if_pos c3] at e
    cases e
    intro q
    have q : ξ2 192 11 = 3 := q
    show χ 192 4 + 2 ≤ ξ2 192 4
    have := k2.2.2.2.2.2 (by omega) q
    have := n1.2 (by omega) (by omega)
    omega
theorem says_p {χ ξ : hf_F} {r : Int} (hI : Inv χ) (e : F_RideLawsModel_readSays_192 χ = (r, ξ)) (h : ¬ r = 0) : P2 χ ξ := by
  unfold F_RideLawsModel_readSays_192 at e
  rw [bnv_e rfl] at e
  have n1 := next_p hI rfl
  have k1 := K_F_RideLawsModel_next_192 hI rfl
  generalize F_RideLawsModel_next_192 χ = ξ1 at e n1 k1
  have b := ctb k1.1
  unfold CTB at b
  obtain ⟨z2, ξ2, g2⟩ : ∃ x y, F_RideLawsModel_looksAt_192 ξ1 52 (ξ1 195 3) = (x, y) := ⟨_, _, rfl⟩
  rw [bnd_e g2] at e
  have k2 := K_F_RideLawsModel_looksAt_192 k1.1 (by omega) (by omega) (by omega) (by omega) (by omega) g2
  by_cases c2 : z2 = 0
  · rw [if_neg (fun q => q c2)] at e; cases e; exact absurd rfl h
  rw [if_pos c2] at e
  have p2 := looks_p g2 c2
  by_cases c3 : ξ2 195 (33 + ξ2 192 18).toNat = 6
  · rw [if_neg (fun q => q c3)] at e
    exact absurd (bad_0 e) h
  rw [if_pos c3, bnv_e rfl] at e
  have k3 := K_F_RideLawsModel_next_192 k2.1 rfl
  generalize F_RideLawsModel_next_192 ξ2 = ξ3 at e k3
  have b3 := ctb k3.1
  unfold CTB at b3
  obtain ⟨z4, ξ4, g4⟩ : ∃ x y, F_RideLawsModel_takesName_192 ξ3 44 (ξ3 195 2) = (x, y) := ⟨_, _, rfl⟩
  rw [bnd_e g4] at e
  have k4 := K_F_RideLawsModel_takesName_192 k3.1 (by omega) (by omega) (by omega) (by omega) (by omega) g4
  by_cases c4 : z4 = 0
  · rw [if_neg (fun q => q c4)] at e; cases e; exact absurd rfl h
  rw [if_pos c4] at e
  cases e
  intro q
  have q : ξ4 192 11 = 3 := q
  show χ 192 4 + 2 ≤ ξ4 192 4
  have := (k4.2.2.2.2.1.1 (by omega)).2.2 q
  have := k3.2.2.1
  have := k2.2.2.2.2.1.1.2
  have := n1.2 (by omega) (by omega)
  omega
theorem law_p {χ ξ : hf_F} {r : Int} (hI : Inv χ) (e : F_RideLawsModel_readLaw_192 χ = (r, ξ)) (h : ¬ r = 0) : P2 χ ξ := by
  unfold F_RideLawsModel_readLaw_192 at e
  have b := ctb hI
  unfold CTB at b
  by_cases c0 : χ 195 4 = 8
  · rw [if_neg (fun q => q c0)] at e
    exact absurd (bad_0 e) h
  rw [if_pos c0, bnv_e rfl] at e
  have n1 := next_p hI rfl
  have k1 := K_F_RideLawsModel_next_192 hI rfl
  generalize F_RideLawsModel_next_192 χ = ξ1 at e n1 k1
  obtain ⟨z2, ξ2, g2⟩ : ∃ x y, F_RideLawsModel_fresh_192 ξ1 (58 + χ 195 4) = (x, y) := ⟨_, _, rfl⟩
  rw [bnd_e g2] at e
  have k2 := K_F_RideLawsModel_fresh_192 k1.1 (by omega) (by omega) g2
  by_cases c2 : z2 = 0
  · rw [if_pos c2] at e; cases e; exact absurd rfl h
  rw [if_neg c2] at e
  have p2 := fresh_p g2 c2
  have b2 := ctb k2.1
  unfold CTB at b2
  obtain ⟨z3, ξ3, g3⟩ : ∃ x y, F_RideLawsModel_takesName_192 ξ2 44 (ξ2 195 2) = (x, y) := ⟨_, _, rfl⟩
  rw [bnd_e g3] at e
  have k3 := K_F_RideLawsModel_takesName_192 k2.1 (by omega) (by omega) (by omega) (by omega) (by omega) g3
  by_cases c3 : z3 = 0
  · rw [if_neg (fun q => q c3)] at e; cases e; exact absurd rfl h
  rw [if_pos c3] at e
  have b3 := ctb k3.1
  unfold CTB at b3
  obtain ⟨z4, ξ4, g4⟩ : ∃ x y, F_RideLawsModel_looksAt_192 ξ3 44 (ξ3 195 2) = (x, y) := ⟨_, _, rfl⟩
  rw [bnd_e g4] at e
  have k4 := K_F_RideLawsModel_looksAt_192 k3.1 (by omega) (by omega) (by omega) (by omega) (by omega) g4
  by_cases c4 : z4 = 0
  · rw [if_neg (fun q => q c4)] at e; cases e; exact absurd rfl h
  rw [if_pos c4] at e
  rcases mlaw_l 9 ξ4 (χ 195 4) (ξ3 192 18) 0 (by decide) (by decide) (by decide) (by omega) with ⟨j1, _⟩ | ⟨j1, _⟩
  · rw [show (8 - 0 : Int).toNat + 1 = 9 from rfl, j1] at e
    have hg := k4.2.2.2.2.1.1.1 (by omega)
    have hg3 := k3.2.2.2.2.1.1 (by omega)
    have i2 : Inv (hf_up (hf_up ξ4 195 (75 + χ 195 4).toNat (ξ3 192 18)) 195 (83 + χ 195 4).toNat (ξ4 192 18)) := by
      have i1 : Inv (hf_up ξ4 195 (75 + χ 195 4).toNat (ξ3 192 18)) := iv_upI (s := 75) (t := 83) (lo := 0) (u := 7) (z := 75 + χ 195 4) k4.1 (by decide +kernel) (by omega) (by omega) (by omega) (by omega)
      exact iv_upI (s := 83) (t := 91) (lo := 0) (u := 7) (z := 83 + χ 195 4) i1 (by decide +kernel) (by omega) (by omega) (by omega) (by omega)
    have n4 := next_p i2 rfl
    cases e
    intro q
    have q : F_RideLawsModel_next_192 (hf_up (hf_up ξ4 195 (75 + χ 195 4).toNat (ξ3 192 18)) 195 (83 + χ 195 4).toNat (ξ4 192 18)) 192 11 = 3 := q
    have n5 := n4.2 (by omega) (by omega)
    show χ 192 4 + 2 ≤ F_RideLawsModel_next_192 (hf_up (hf_up ξ4 195 (75 + χ 195 4).toNat (ξ3 192 18)) 195 (83 + χ 195 4).toNat (ξ4 192 18)) 192 4
    have n6 : ξ4 192 4 < F_RideLawsModel_next_192 (hf_up (hf_up ξ4 195 (75 + χ 195 4).toNat (ξ3 192 18)) 195 (83 + χ 195 4).toNat (ξ4 192 18)) 192 4 := n5
    have := k4.2.2.2.2.1.1.2
    have := k3.2.2.2.2.1.2
    have := k2.2.2.2.2.1
    have := n1.2 (by omega) (by omega)
    omega
  · rw [show (8 - 0 : Int).toNat + 1 = 9 from rfl, j1] at e
    unfold F_RideLawsModel_bad_192 at e
    cases e
    exact absurd rfl h
theorem clash_p {χ ξ : hf_F} {r : Int} (hI : Inv χ) (e : F_RideLawsModel_readClash_192 χ = (r, ξ)) (h : ¬ r = 0) : P2 χ ξ := by
  unfold F_RideLawsModel_readClash_192 at e
  rw [bnv_e rfl] at e
  have n1 := next_p hI rfl
  have k1 := K_F_RideLawsModel_next_192 hI rfl
  generalize F_RideLawsModel_next_192 χ = ξ1 at e n1 k1
  have b := ctb k1.1
  unfold CTB at b
  obtain ⟨z2, ξ2, g2⟩ : ∃ x y, F_RideLawsModel_takesName_192 ξ1 58 (ξ1 195 4) = (x, y) := ⟨_, _, rfl⟩
  rw [bnd_e g2] at e
  have k2 := K_F_RideLawsModel_takesName_192 k1.1 (by omega) (by omega) (by omega) (by omega) (by omega) g2
  by_cases c2 : z2 = 0
  · rw [if_neg (fun q => q c2)] at e; cases e; exact absurd rfl h
  rw [if_pos c2] at e
  have p2 := tname_p g2 c2
  have b2 := ctb k2.1
  unfold CTB at b2
  obtain ⟨z3, ξ3, g3⟩ : ∃ x y, F_RideLawsModel_looksAt_192 ξ2 58 (ξ2 195 4) = (x, y) := ⟨_, _, rfl⟩
  rw [bnd_e g3] at e
  have k3 := K_F_RideLawsModel_looksAt_192 k2.1 (by omega) (by omega) (by omega) (by omega) (by omega) g3
  by_cases c3 : z3 = 0
  · rw [if_neg (fun q => q c3)] at e; cases e; exact absurd rfl h
  rw [if_pos c3] at e
  by_cases c4 : ξ3 192 18 = ξ2 192 18
  · rw [if_pos c4] at e
    exact absurd (bad_0 e) h
  rw [if_neg c4, bnp_e rfl] at e
  have hg := k3.2.2.2.2.1.1.1 (by omega)
  have hg2 := k2.2.2.2.2.1.1 (by omega)
  by_cases c5 : F_RideLawsModel_bitOf ξ3 (ξ3 195 (91 + ξ2 192 18).toNat) (ξ3 192 18) = 0
  · rw [if_pos c5, bnv_e rfl] at e
    have o1 := hr_or (ξ3 195 (91 + ξ2 192 18).toNat) (hb_shl 1 (ξ3 192 18))
    have o2 := hr_or (hf_up ξ3 195 (91 + ξ2 192 18).toNat (hb_or (ξ3 195 (91 + ξ2 192 18).toNat) (hb_shl 1 (ξ3 192 18))) 195 (91 + ξ3 192 18).toNat) (hb_shl 1 (ξ2 192 18))
    have i1 : Inv (hf_up ξ3 195 (91 + ξ2 192 18).toNat (hb_or (ξ3 195 (91 + ξ2 192 18).toNat) (hb_shl 1 (ξ3 192 18)))) := iv_upI (s := 91) (t := 99) (lo := -2147483648) (u := 2147483647) (z := 91 + ξ2 192 18) k3.1 (by decide +kernel) (by omega) (by omega) o1.1 o1.2
    have i2 := iv_upI (a := 195) (s := 91) (t := 99) (lo := -2147483648) (u := 2147483647) (z := 91 + ξ3 192 18) i1 (by decide +kernel) (by omega) (by omega) o2.1 o2.2
    have n4 := next_p i2 rfl
    generalize hx : F_RideLawsModel_next_192 _ = ξ9 at e n4
    cases e
    intro q
    have n5 := n4.2 (by omega) (by omega)
    have n6 : ξ3 192 4 < ξ 192 4 := n5
    have := k3.2.2.2.2.1.1.2
    have := k2.2.2.2.2.1.2
    have := n1.2 (by omega) (by omega)
    omega
  · rw [if_neg c5] at e
    exact absurd (bad_0 e) h
