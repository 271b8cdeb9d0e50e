/-! the numbers and the names of a line -/
noncomputable def LR (r s : Int) (ψ ξ : hf_F) : Prop := (r = 1 ∧ s = 1 ∧ DRP ψ ξ) ∨ (r = 0 ∧ s = 0 ∧ FP ψ ξ)
theorem cmp00 : jm_cmp 0 0 = 0 := (cmp_0 vw_0).mpr rfl
theorem num_rel {φ χ ψ ξ : hf_F} {lo hi z r : Int} (h : RP φ χ) (h0 : 0 ≤ lo) (e1 : F_Reader_peekNumber_1 φ lo hi = (z, ψ)) (e2 : F_RideLawsModel_takes_192 χ lo hi = (r, ξ)) :
    (z = -1 ∧ r = 0 ∧ FP ψ ξ) ∨ (lo ≤ z ∧ z ≤ hi ∧ ψ = φ ∧ r = 1 ∧ z = χ 192 14 ∧ ξ = F_RideLawsModel_next_192 (hf_up χ 192 18 z)) := by
  unfold F_Reader_peekNumber_1 at e1
  unfold F_RideLawsModel_takes_192 F_RideLawsModel_isIn at e2
  have hx := h.2.2.2.2.2
  have hbad : ∀ (k : Int) {a : Int} {ψ' ξ' : hf_F}, bnd (F_Reader_refuse_1 φ k) (fun _ ψ => ((-1 : Int), ψ)) = (a, ψ') → ∀ {b : Int}, bnd (F_RideLawsModel_bad_192 χ k) (fun z ψ => (z, ψ)) = (b, ξ') → a = -1 ∧ b = 0 ∧ FP ψ' ξ' := by
    intro k a ψ' ξ' q1 b q2
    have := rf_bad h (show F_Reader_refuse_1 φ k = (_, _) from rfl) (show F_RideLawsModel_bad_192 χ k = (_, _) from rfl)
    rw [bnd_e (show F_Reader_refuse_1 φ k = (_, _) from rfl)] at q1
    rw [bnd_e (show F_RideLawsModel_bad_192 χ k = (_, _) from rfl)] at q2
    cases q1
    cases q2
    exact ⟨rfl, rfl, this.2.2⟩
  by_cases c1 : φ 1 5 = 4
  · have c2 : χ 192 11 = 2 ∧ φ 1 7 = χ 192 14 := by
      rcases hx with ⟨x1, x2⟩ | ⟨x1, x2⟩ | ⟨x1, x2, x3⟩ | ⟨x1, x2, x3⟩ | ⟨x1, x2, x3, x4, ⟨x5, _⟩ | ⟨x5, _⟩⟩ <;> omega
    rw [if_pos c1] at e1
    rw [if_pos c2.1, bnp_e rfl] at e2
    by_cases c3 : φ 1 7 < lo
    · rw [if_pos c3] at e1
      rw [if_pos (show χ 192 14 < lo by omega), if_neg (fun q => q rfl)] at e2
      exact Or.inl (hbad 2 e1 e2)
    · rw [if_neg c3] at e1
      rw [if_neg (show ¬ χ 192 14 < lo by omega)] at e2
      by_cases c4 : φ 1 7 ≤ hi
      · rw [if_pos c4] at e1
        rw [if_neg (show ¬ hi < χ 192 14 by omega), if_pos (by decide), bnv_e rfl] at e2
        cases e1
        cases e2
        exact Or.inr ⟨by omega, c4, rfl, rfl, c2.2, by rw [c2.2]⟩
      · rw [if_neg c4] at e1
        rw [if_pos (show hi < χ 192 14 by omega), if_neg (fun q => q rfl)] at e2
        exact Or.inl (hbad 2 e1 e2)
  · have c2 : ¬ χ 192 11 = 2 := by
      rcases hx with ⟨x1, x2⟩ | ⟨x1, x2⟩ | ⟨x1, x2, x3⟩ | ⟨x1, x2, x3⟩ | ⟨x1, x2, x3, x4, x5⟩ <;> omega
    rw [if_neg c1] at e1
    rw [if_neg c2] at e2
    exact Or.inl (hbad 1 e1 e2)
/-- the model's object's field 18 alone is changed -/
theorem rp_got {φ χ : hf_F} (h : RP φ χ) {v : Int} (h1 : -1 ≤ v) (h2 : v ≤ 999) : RP φ (hf_up χ 192 18 v) :=
  rp_f h h.1.1 (iv_up (lo := -1) (u := 999) h.1.2 (by decide +kernel) h1 h2) (fun _ _ => rfl) (fun j hj => hf_up_ne (fun q => by omega)) (fun _ => rfl) (fun j => hf_up_ne (fun q => absurd q.1 (by decide))) (fun _ => rfl) (fun j => hf_up_ne (fun q => absurd q.1 (by decide)))
theorem rp_gadv {φ χ : hf_F} (h : RP φ χ) {v : Int} (h1 : -1 ≤ v) (h2 : v ≤ 999) : RP (F_Reader_advance_1 φ) (F_RideLawsModel_next_192 (hf_up χ 192 18 v)) ∧ (∀ a k, (32 ≤ a ∧ a ≤ 48 ∧ ¬ a = 43) → F_Reader_advance_1 φ a k = φ a k) ∧
    F_RideLawsModel_next_192 (hf_up χ 192 18 v) 192 18 = v ∧ (∀ k, F_RideLawsModel_next_192 (hf_up χ 192 18 v) 195 k = χ 195 k) ∧ (∀ k, F_RideLawsModel_next_192 (hf_up χ 192 18 v) 197 k = χ 197 k) := by
  have ra := rp_adv (rp_got h h1 h2) rfl rfl
  refine ⟨ra.1, fun a k q => fr_hi ra.2.1 (by decide) (obl_d q) (by omega) k, ?_, fun k => ?_, fun k => ?_⟩
  · rw [fr_fd ra.2.2 192 18 (by decide), hf_up_eq]
  · rw [fr_at ra.2.2 195 (by decide), hf_up_ne (fun q => absurd q.1 (by decide))]
  · rw [fr_at ra.2.2 197 (by decide), hf_up_ne (fun q => absurd q.1 (by decide))]
theorem nmr_g {φ χ φ' χ' : hf_F} {a oa b ob : Nat} {n n' : Int} (h : NMR φ χ a oa b ob n) (h0 : n' = n) (h1 : ∀ i : Nat, (i : Int) < n → φ' a (oa + i) = φ a (oa + i)) (h2 : ∀ i : Nat, (i : Int) < n → χ' b (ob + i) = χ b (ob + i)) : NMR φ' χ' a oa b ob n' := by
  intro i hi
  rw [h1 i (by omega), h2 i (by omega)]
  exact h i (by omega)
theorem nmr_a {φ χ φ' χ' : hf_F} {a oa b ob : Nat} {n n' z : Int} (h : NMR φ χ a oa b ob n) (hn : 0 ≤ n) (h0 : n' = n + 1) (h1 : ∀ i : Nat, (i : Int) < n → φ' a (oa + i) = φ a (oa + i)) (h2 : ∀ i : Nat, (i : Int) < n → χ' b (ob + i) = χ b (ob + i))
    (hz : VW z) (h3 : φ' a (oa + n.toNat) = z) (h4 : χ' b (ob + n.toNat) = G8 z) : NMR φ' χ' a oa b ob n' := by
  intro i hi
  by_cases hc : (i : Int) < n
  · rw [h1 i hc, h2 i hc]
    exact h i hc
  · rw [show i = n.toNat by omega, h3, h4]
    exact ⟨hz, rfl⟩
theorem put_a {φ χ ψ ξ : hf_F} {v z r : Int} (h : RP φ χ) (h1 : 5 ≤ v) (h2 : v ≤ 7) (e1 : F_Reader_peekNumber_1 φ 2 30 = (z, ψ)) (e2 : F_RideLawsModel_puts_192_k2_2_k3_30 χ v = (r, ξ)) :
    (z = -1 ∧ r = 0 ∧ FP ψ ξ) ∨ (2 ≤ z ∧ z ≤ 30 ∧ ψ = φ ∧ r = 1 ∧ RP (F_Reader_advance_1 φ) ξ ∧ ξ 195 v.toNat = z ∧ (∀ k : Nat, ¬ k = v.toNat → ξ 195 k = χ 195 k) ∧ (∀ k, ξ 197 k = χ 197 k) ∧ (∀ a k, (32 ≤ a ∧ a ≤ 48 ∧ ¬ a = 43) → F_Reader_advance_1 φ a k = φ a k)) := by
  have kk := K_F_RideLawsModel_puts_192_k2_2_k3_30 h.1.2 h1 h2 e2
  unfold F_RideLawsModel_puts_192_k2_2_k3_30 at e2
  obtain ⟨z1, ξ1, g1⟩ : ∃ a b, F_RideLawsModel_takes_192 χ 2 30 = (a, b) := ⟨_, _, rfl⟩
  rw [bnd_e g1] at e2
  rcases num_rel h (by decide) e1 g1 with ⟨n1, n2, n3⟩ | ⟨n1, n2, n3, n4, n5, n6⟩
  · rw [if_neg (fun q => q n2)] at e2
    cases e2
    exact Or.inl ⟨n1, rfl, n3⟩
  · rw [if_pos (show ¬ z1 = 0 by omega)] at e2
    obtain ⟨r1, r2, r3, r4, r5⟩ := rp_gadv (v := z) h (by omega) (by omega)
    rw [← n6] at r1 r3 r4 r5
    cases e2
    refine Or.inr ⟨n1, n2, n3, rfl, ?_, ?_, fun k hk => ?_, fun k => ?_, r2⟩
    · exact rp_f r1 r1.1.1 kk.1 (fun _ _ => rfl) (fun j hj => hf_up_ne (fun q => absurd q.1 (by decide))) (fun _ => rfl) (fun j => hf_up_ne (fun q => absurd q.1 (by decide))) (fun _ => rfl) (fun j => hf_up_ne (fun q => absurd q.1 (by decide)))
    · rw [hf_up_eq, r3]
    · rw [hf_up_ne (fun q => hk q.2), r4]
    · rw [hf_up_ne (fun q => absurd q.1 (by decide)), r5]
theorem put_b {φ χ ψ ξ : hf_F} {v z r : Int} (h : RP φ χ) (h1 : 8 ≤ v) (h2 : v ≤ 10) (e1 : F_Reader_peekNumber_1 φ 1 9 = (z, ψ)) (e2 : F_RideLawsModel_puts_192_k2_1_k3_9 χ v = (r, ξ)) :
    (z = -1 ∧ r = 0 ∧ FP ψ ξ) ∨ (1 ≤ z ∧ z ≤ 9 ∧ ψ = φ ∧ r = 1 ∧ RP (F_Reader_advance_1 φ) ξ ∧ ξ 195 v.toNat = z ∧ (∀ k : Nat, ¬ k = v.toNat → ξ 195 k = χ 195 k) ∧ (∀ k, ξ 197 k = χ 197 k) ∧ (∀ a k, (32 ≤ a ∧ a ≤ 48 ∧ ¬ a = 43) → F_Reader_advance_1 φ a k = φ a k)) := by
  have kk := K_F_RideLawsModel_puts_192_k2_1_k3_9 h.1.2 h1 h2 e2
  unfold F_RideLawsModel_puts_192_k2_1_k3_9 at e2
  obtain ⟨z1, ξ1, g1⟩ : ∃ a b, F_RideLawsModel_takes_192 χ 1 9 = (a, b) := ⟨_, _, rfl⟩
  rw [bnd_e g1] at e2
  rcases num_rel h (by decide) e1 g1 with ⟨n1, n2, n3⟩ | ⟨n1, n2, n3, n4, n5, n6⟩
  · rw [if_neg (fun q => q n2)] at e2
    cases e2
    exact Or.inl ⟨n1, rfl, n3⟩
  · rw [if_pos (show ¬ z1 = 0 by omega)] at e2
    obtain ⟨r1, r2, r3, r4, r5⟩ := rp_gadv (v := z) h (by omega) (by omega)
    rw [← n6] at r1 r3 r4 r5
    cases e2
    refine Or.inr ⟨n1, n2, n3, rfl, ?_, ?_, fun k hk => ?_, fun k => ?_, r2⟩
    · exact rp_f r1 r1.1.1 kk.1 (fun _ _ => rfl) (fun j hj => hf_up_ne (fun q => absurd q.1 (by decide))) (fun _ => rfl) (fun j => hf_up_ne (fun q => absurd q.1 (by decide))) (fun _ => rfl) (fun j => hf_up_ne (fun q => absurd q.1 (by decide)))
    · rw [hf_up_eq, r3]
    · rw [hf_up_ne (fun q => hk q.2), r4]
    · rw [hf_up_ne (fun q => absurd q.1 (by decide)), r5]
theorem tn_31_0 {φ χ ψ ξ : hf_F} {r s : Int} (h : RP φ χ) (h4 : φ 32 0 = χ 195 0) (h5 : φ 32 0 ≤ 8) (h6 : NMR φ χ 33 0 197 33 (χ 195 0))
    (e1 : F_Reader_peekNamed_1_31_k2_0 φ = (r, ψ)) (e2 : F_RideLawsModel_takesName_192 χ 33 (χ 195 0) = (s, ξ)) :
    (s = 1 ∧ 0 ≤ r ∧ r < χ 195 0 ∧ ψ = φ ∧ ξ = F_RideLawsModel_next_192 (hf_up χ 192 18 r)) ∨ (s = 0 ∧ r = -1 ∧ FP ψ ξ) := by
  unfold F_RideLawsModel_takesName_192 at e2
  obtain ⟨z1, ξ1, g1⟩ : ∃ a b, F_RideLawsModel_looksAt_192 χ 33 (χ 195 0) = (a, b) := ⟨_, _, rfl⟩
  rw [bnd_e g1] at e2
  rcases pn_31_0 h h4 h5 h6 e1 g1 with ⟨n1, n2, n3, n4, n5⟩ | ⟨n1, n2, n3⟩
  · rw [if_pos (show ¬ z1 = 0 by omega), bnv_e rfl] at e2
    cases e2
    exact Or.inl ⟨rfl, n2, n3, n4, by rw [n5]⟩
  · rw [if_neg (fun q => q n1)] at e2
    cases e2
    exact Or.inr ⟨rfl, n2, n3⟩
theorem tn_31_1 {φ χ ψ ξ : hf_F} {r s : Int} (h : RP φ χ) (h4 : φ 32 1 = χ 195 1) (h5 : φ 32 1 ≤ 8) (h6 : NMR φ χ 33 8 197 36 (χ 195 1))
    (e1 : F_Reader_peekNamed_1_31_k2_1 φ = (r, ψ)) (e2 : F_RideLawsModel_takesName_192 χ 36 (χ 195 1) = (s, ξ)) :
    (s = 1 ∧ 0 ≤ r ∧ r < χ 195 1 ∧ ψ = φ ∧ ξ = F_RideLawsModel_next_192 (hf_up χ 192 18 r)) ∨ (s = 0 ∧ r = -1 ∧ FP ψ ξ) := by
  unfold F_RideLawsModel_takesName_192 at e2
  obtain ⟨z1, ξ1, g1⟩ : ∃ a b, F_RideLawsModel_looksAt_192 χ 36 (χ 195 1) = (a, b) := ⟨_, _, rfl⟩
  rw [bnd_e g1] at e2
  rcases pn_31_1 h h4 h5 h6 e1 g1 with ⟨n1, n2, n3, n4, n5⟩ | ⟨n1, n2, n3⟩
  · rw [if_pos (show ¬ z1 = 0 by omega), bnv_e rfl] at e2
    cases e2
    exact Or.inl ⟨rfl, n2, n3, n4, by rw [n5]⟩
  · rw [if_neg (fun q => q n1)] at e2
    cases e2
    exact Or.inr ⟨rfl, n2, n3⟩
theorem tn_31_2 {φ χ ψ ξ : hf_F} {r s : Int} (h : RP φ χ) (h4 : φ 32 2 = χ 195 2) (h5 : φ 32 2 ≤ 8) (h6 : NMR φ χ 33 16 197 44 (χ 195 2))
    (e1 : F_Reader_peekNamed_1_31_k2_2 φ = (r, ψ)) (e2 : F_RideLawsModel_takesName_192 χ 44 (χ 195 2) = (s, ξ)) :
    (s = 1 ∧ 0 ≤ r ∧ r < χ 195 2 ∧ ψ = φ ∧ ξ = F_RideLawsModel_next_192 (hf_up χ 192 18 r)) ∨ (s = 0 ∧ r = -1 ∧ FP ψ ξ) := by
  unfold F_RideLawsModel_takesName_192 at e2
  obtain ⟨z1, ξ1, g1⟩ : ∃ a b, F_RideLawsModel_looksAt_192 χ 44 (χ 195 2) = (a, b) := ⟨_, _, rfl⟩
  rw [bnd_e g1] at e2
  rcases pn_31_2 h h4 h5 h6 e1 g1 with ⟨n1, n2, n3, n4, n5⟩ | ⟨n1, n2, n3⟩
  · rw [if_pos (show ¬ z1 = 0 by omega), bnv_e rfl] at e2
    cases e2
    exact Or.inl ⟨rfl, n2, n3, n4, by rw [n5]⟩
  · rw [if_neg (fun q => q n1)] at e2
    cases e2
    exact Or.inr ⟨rfl, n2, n3⟩
theorem tn_31_3 {φ χ ψ ξ : hf_F} {r s : Int} (h : RP φ χ) (h4 : φ 32 3 = χ 195 3) (h5 : φ 32 3 ≤ 8) (h6 : NMR φ χ 33 24 197 52 (χ 195 3))
    (e1 : F_Reader_peekNamed_1_31_k2_3 φ = (r, ψ)) (e2 : F_RideLawsModel_takesName_192 χ 52 (χ 195 3) = (s, ξ)) :
    (s = 1 ∧ 0 ≤ r ∧ r < χ 195 3 ∧ ψ = φ ∧ ξ = F_RideLawsModel_next_192 (hf_up χ 192 18 r)) ∨ (s = 0 ∧ r = -1 ∧ FP ψ ξ) := by
  unfold F_RideLawsModel_takesName_192 at e2
  obtain ⟨z1, ξ1, g1⟩ : ∃ a b, F_RideLawsModel_looksAt_192 χ 52 (χ 195 3) = (a, b) := ⟨_, _, rfl⟩
  rw [bnd_e g1] at e2
  rcases pn_31_3 h h4 h5 h6 e1 g1 with ⟨n1, n2, n3, n4, n5⟩ | ⟨n1, n2, n3⟩
  · rw [if_pos (show ¬ z1 = 0 by omega), bnv_e rfl] at e2
    cases e2
    exact Or.inl ⟨rfl, n2, n3, n4, by rw [n5]⟩
  · rw [if_neg (fun q => q n1)] at e2
    cases e2
    exact Or.inr ⟨rfl, n2, n3⟩
theorem tn_31_4 {φ χ ψ ξ : hf_F} {r s : Int} (h : RP φ χ) (h4 : φ 32 4 = χ 195 4) (h5 : φ 32 4 ≤ 8) (h6 : NMR φ χ 33 32 197 58 (χ 195 4))
    (e1 : F_Reader_peekNamed_1_31_k2_4 φ = (r, ψ)) (e2 : F_RideLawsModel_takesName_192 χ 58 (χ 195 4) = (s, ξ)) :
    (s = 1 ∧ 0 ≤ r ∧ r < χ 195 4 ∧ ψ = φ ∧ ξ = F_RideLawsModel_next_192 (hf_up χ 192 18 r)) ∨ (s = 0 ∧ r = -1 ∧ FP ψ ξ) := by
  unfold F_RideLawsModel_takesName_192 at e2
  obtain ⟨z1, ξ1, g1⟩ : ∃ a b, F_RideLawsModel_looksAt_192 χ 58 (χ 195 4) = (a, b) := ⟨_, _, rfl⟩
  rw [bnd_e g1] at e2
  rcases pn_31_4 h h4 h5 h6 e1 g1 with ⟨n1, n2, n3, n4, n5⟩ | ⟨n1, n2, n3⟩
  · rw [if_pos (show ¬ z1 = 0 by omega), bnv_e rfl] at e2
    cases e2
    exact Or.inl ⟨rfl, n2, n3, n4, by rw [n5]⟩
  · rw [if_neg (fun q => q n1)] at e2
    cases e2
    exact Or.inr ⟨rfl, n2, n3⟩
theorem tn_5_1 {φ χ ψ ξ : hf_F} {r s : Int} (h : RP φ χ) (h4 : φ 6 1 = χ 194 1) (h5 : φ 6 1 ≤ 8) (h6 : NMR φ χ 7 8 197 3 (χ 194 1))
    (e1 : F_Reader_peekNamed_1_5_k2_1 φ = (r, ψ)) (e2 : F_RideLawsModel_takesName_192 χ 3 (χ 194 1) = (s, ξ)) :
    (s = 1 ∧ 0 ≤ r ∧ r < χ 194 1 ∧ ψ = φ ∧ ξ = F_RideLawsModel_next_192 (hf_up χ 192 18 r)) ∨ (s = 0 ∧ r = -1 ∧ FP ψ ξ) := by
  unfold F_RideLawsModel_takesName_192 at e2
  obtain ⟨z1, ξ1, g1⟩ : ∃ a b, F_RideLawsModel_looksAt_192 χ 3 (χ 194 1) = (a, b) := ⟨_, _, rfl⟩
  rw [bnd_e g1] at e2
  rcases pn_5_1 h h4 h5 h6 e1 g1 with ⟨n1, n2, n3, n4, n5⟩ | ⟨n1, n2, n3⟩
  · rw [if_pos (show ¬ z1 = 0 by omega), bnv_e rfl] at e2
    cases e2
    exact Or.inl ⟨rfl, n2, n3, n4, by rw [n5]⟩
  · rw [if_neg (fun q => q n1)] at e2
    cases e2
    exact Or.inr ⟨rfl, n2, n3⟩
theorem tn_5_2 {φ χ ψ ξ : hf_F} {r s : Int} (h : RP φ χ) (h4 : φ 6 2 = χ 194 2) (h5 : φ 6 2 ≤ 8) (h6 : NMR φ χ 7 16 197 11 (χ 194 2))
    (e1 : F_Reader_peekNamed_1_5_k2_2 φ = (r, ψ)) (e2 : F_RideLawsModel_takesName_192 χ 11 (χ 194 2) = (s, ξ)) :
    (s = 1 ∧ 0 ≤ r ∧ r < χ 194 2 ∧ ψ = φ ∧ ξ = F_RideLawsModel_next_192 (hf_up χ 192 18 r)) ∨ (s = 0 ∧ r = -1 ∧ FP ψ ξ) := by
  unfold F_RideLawsModel_takesName_192 at e2
  obtain ⟨z1, ξ1, g1⟩ : ∃ a b, F_RideLawsModel_looksAt_192 χ 11 (χ 194 2) = (a, b) := ⟨_, _, rfl⟩
  rw [bnd_e g1] at e2
  rcases pn_5_2 h h4 h5 h6 e1 g1 with ⟨n1, n2, n3, n4, n5⟩ | ⟨n1, n2, n3⟩
  · rw [if_pos (show ¬ z1 = 0 by omega), bnv_e rfl] at e2
    cases e2
    exact Or.inl ⟨rfl, n2, n3, n4, by rw [n5]⟩
  · rw [if_neg (fun q => q n1)] at e2
    cases e2
    exact Or.inr ⟨rfl, n2, n3⟩
theorem tn_5_3 {φ χ ψ ξ : hf_F} {r s : Int} (h : RP φ χ) (h4 : φ 6 3 = χ 194 3) (h5 : φ 6 3 ≤ 8) (h6 : NMR φ χ 7 24 197 19 (χ 194 3))
    (e1 : F_Reader_peekNamed_1_5_k2_3 φ = (r, ψ)) (e2 : F_RideLawsModel_takesName_192 χ 19 (χ 194 3) = (s, ξ)) :
    (s = 1 ∧ 0 ≤ r ∧ r < χ 194 3 ∧ ψ = φ ∧ ξ = F_RideLawsModel_next_192 (hf_up χ 192 18 r)) ∨ (s = 0 ∧ r = -1 ∧ FP ψ ξ) := by
  unfold F_RideLawsModel_takesName_192 at e2
  obtain ⟨z1, ξ1, g1⟩ : ∃ a b, F_RideLawsModel_looksAt_192 χ 19 (χ 194 3) = (a, b) := ⟨_, _, rfl⟩
  rw [bnd_e g1] at e2
  rcases pn_5_3 h h4 h5 h6 e1 g1 with ⟨n1, n2, n3, n4, n5⟩ | ⟨n1, n2, n3⟩
  · rw [if_pos (show ¬ z1 = 0 by omega), bnv_e rfl] at e2
    cases e2
    exact Or.inl ⟨rfl, n2, n3, n4, by rw [n5]⟩
  · rw [if_neg (fun q => q n1)] at e2
    cases e2
    exact Or.inr ⟨rfl, n2, n3⟩
