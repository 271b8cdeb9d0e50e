/-! who said most -/
theorem mo_l {φ χ : hf_F} (e3 : φ 6 3 = χ 194 3) (e24 : ∀ r : Nat, r < 6 → φ 24 r = χ 194 (166 + r)) (hm : ∀ r : Nat, r < 6 → 0 ≤ χ 194 (166 + r) ∧ χ 194 (166 + r) ≤ 8000) (h6 : χ 194 3 ≤ 6) :
    ∀ (n k : Nat) (b c l : Int), 6 - l < n → 6 - l < k → 1 ≤ l → l ≤ 6 → ((b = -1 ∧ c = 0 ∧ ∀ j : Nat, (j : Int) < l → χ 194 (166 + j) = 0) ∨ (b = c ∧ 0 ≤ c ∧ c < l ∧ 0 < χ 194 (166 + c.toNat))) →
    ((F_RideLawsModel_most_192_l9 n χ b l).1 = -1 ∧ ∀ j : Nat, (j : Int) < χ 194 3 → χ 194 (166 + j) = 0) ∨ ((F_RideLawsModel_most_192_l9 n χ b l).1 = F_RideLaws_most_0_l19 k φ c l ∧ ∃ j : Nat, j < 6 ∧ 0 < χ 194 (166 + j)) := by
  intro n
  induction n with
  | zero => intro k b c l h1 h2 h3 h4; omega
  | succ n ih =>
    intro k b c l h1 h2 h3 h4 hR
    obtain ⟨k, rfl⟩ : ∃ j, k = j + 1 := ⟨k - 1, by omega⟩
    rw [F_RideLawsModel_most_192_l9_s, F_RideLaws_most_0_l19_s, e3]
    by_cases c1 : χ 194 3 ≤ l
    · rw [if_pos c1, if_pos c1]
      rcases hR with ⟨r1, r2, r3⟩ | ⟨r1, r2, r3, r4⟩
      · exact Or.inl ⟨r1, fun j hj => r3 j (by omega)⟩
      · exact Or.inr ⟨r1, c.toNat, by omega, r4⟩
    · rw [if_neg c1, if_neg c1]
      have ml := hm l.toNat (by omega)
      have hl : jm_n (χ 194 (166 + l.toNat)) = χ 194 (166 + l.toNat) := hi_n (by unfold hi; omega)
      rw [show (166 + l).toNat = 166 + l.toNat by omega, e24 l.toNat (by omega), hl]
      rcases hR with ⟨r1, r2, r3⟩ | ⟨r1, r2, r3, r4⟩
      · subst r1
        subst r2
        have m0 : χ 194 (166 + 0) = 0 := r3 0 (by omega)
        have e0 : φ 24 (0 : Int).toNat = 0 := (e24 0 (by decide)).trans m0
        rw [e0, show jm_n 0 = 0 from hi_n (by unfold hi; omega)]
        by_cases c2 : χ 194 (166 + l.toNat) ≤ 0
        · rw [if_pos c2, if_pos c2]
          refine ih k (-1) 0 (l + 1) (by omega) (by omega) (by omega) (by omega) (Or.inl ⟨rfl, rfl, fun j hj => ?_⟩)
          by_cases q : (j : Int) = l
          · rw [show j = l.toNat by omega]; omega
          · exact r3 j (by omega)
        · rw [if_neg c2, if_neg c2, if_pos (by decide)]
          exact ih k l l (l + 1) (by omega) (by omega) (by omega) (by omega) (Or.inr ⟨rfl, by omega, by omega, by omega⟩)
      · subst r1
        have mb := hm b.toNat (by omega)
        have hb : jm_n (χ 194 (166 + b.toNat)) = χ 194 (166 + b.toNat) := hi_n (by unfold hi; omega)
        rw [e24 b.toNat (by omega), hb, show (166 + b).toNat = 166 + b.toNat by omega, hb]
        by_cases c2 : χ 194 (166 + l.toNat) ≤ 0
        · rw [if_pos c2, if_pos (show χ 194 (166 + l.toNat) ≤ χ 194 (166 + b.toNat) by omega)]
          exact ih k b b (l + 1) (by omega) (by omega) (by omega) (by omega) (Or.inr ⟨rfl, r2, by omega, r4⟩)
        · rw [if_neg c2, if_neg (show ¬ b < 0 by omega)]
          by_cases c3 : χ 194 (166 + l.toNat) ≤ χ 194 (166 + b.toNat)
          · rw [if_pos c3, if_pos c3]
            exact ih k b b (l + 1) (by omega) (by omega) (by omega) (by omega) (Or.inr ⟨rfl, r2, by omega, r4⟩)
          · rw [if_neg c3, if_neg c3]
            exact ih k l l (l + 1) (by omega) (by omega) (by omega) (by omega) (Or.inr ⟨rfl, by omega, by omega, by omega⟩)
theorem most_q {φ χ ξ : hf_F} {r s : Int} (hI : Inv χ) (h : SCR φ χ) (e1 : F_RideLaws_most_0 φ = r) (e2 : F_RideLawsModel_most_192 χ = (s, ξ)) : r = s := by
  have h0 := scr_0 (cb_i hI) h
  have hI0 := inv_0 hI
  unfold F_RideLaws_most_0 at e1
  unfold F_RideLawsModel_most_192 at e2
  generalize hf_up χ 192 0 0 = χ0 at e2 h0 hI0
  have hbb := cb_i hI0
  unfold CB at hbb
  have k3 : φ 6 3 = χ0 194 3 := h0.1.1.2.2.2.1
  obtain ⟨⟨t0, _, _, _, _, t5, _⟩, _, t6, _⟩ := h0.2.1.1
  obtain ⟨b1, b2, b3, b4⟩ := h0.2.2.2
  unfold SU at b4
  have m0 := b3 166 (by decide) (by decide)
  have m1 := b3 167 (by decide) (by decide)
  have m2 := b3 168 (by decide) (by decide)
  have m3 := b3 169 (by decide) (by decide)
  have m4 := b3 170 (by decide) (by decide)
  have m5 := b3 171 (by decide) (by decide)
  have hm : ∀ r : Nat, r < 6 → 0 ≤ χ0 194 (166 + r) ∧ χ0 194 (166 + r) ≤ 8000 := fun r hr => by
    rcases (show r = 0 ∨ r = 1 ∨ r = 2 ∨ r = 3 ∨ r = 4 ∨ r = 5 by omega) with rfl | rfl | rfl | rfl | rfl | rfl
    · show 0 ≤ χ0 194 166 ∧ χ0 194 166 ≤ 8000; omega
    · show 0 ≤ χ0 194 167 ∧ χ0 194 167 ≤ 8000; omega
    · show 0 ≤ χ0 194 168 ∧ χ0 194 168 ≤ 8000; omega
    · show 0 ≤ χ0 194 169 ∧ χ0 194 169 ≤ 8000; omega
    · show 0 ≤ χ0 194 170 ∧ χ0 194 170 ≤ 8000; omega
    · show 0 ≤ χ0 194 171 ∧ χ0 194 171 ≤ 8000; omega
  have hz : ∀ j : Nat, j < 6 → χ0 194 3 ≤ (j : Int) → χ0 194 (166 + j) = 0 := fun j hj q => ((t6 j hj).2.2.2.2.1 q).2.2
  have e24 : ∀ r : Nat, r < 6 → φ 24 r = χ0 194 (166 + r) := fun r hr => (t6 r hr).2.2.2.1
  have hS : jm_n (φ 17 4) = φ 17 4 := hi_n (by unfold hi; omega)
  -- none said anything: the sum is nothing
  have allz : (∀ j : Nat, (j : Int) < χ0 194 3 → χ0 194 (166 + j) = 0) → φ 17 4 = 0 := fun q => by
    have z : ∀ j : Nat, j < 6 → χ0 194 (166 + j) = 0 := fun j hj => by
      by_cases w : (j : Int) < χ0 194 3
      · exact q j w
      · exact hz j hj (by omega)
    have z0 : χ0 194 166 = 0 := z 0 (by decide)
    have z1 : χ0 194 167 = 0 := z 1 (by decide)
    have z2 : χ0 194 168 = 0 := z 2 (by decide)
    have z3 : χ0 194 169 = 0 := z 3 (by decide)
    have z4 : χ0 194 170 = 0 := z 4 (by decide)
    have z5 : χ0 194 171 = 0 := z 5 (by decide)
    omega
  have some1 : (∃ j : Nat, j < 6 ∧ 0 < χ0 194 (166 + j)) → ¬ φ 17 4 = 0 := fun ⟨j, hj, q⟩ => by
    rcases (show j = 0 ∨ j = 1 ∨ j = 2 ∨ j = 3 ∨ j = 4 ∨ j = 5 by omega) with rfl | rfl | rfl | rfl | rfl | rfl
    · have q : 0 < χ0 194 166 := q; omega
    · have q : 0 < χ0 194 167 := q; omega
    · have q : 0 < χ0 194 168 := q; omega
    · have q : 0 < χ0 194 169 := q; omega
    · have q : 0 < χ0 194 170 := q; omega
    · have q : 0 < χ0 194 171 := q; omega
  rw [hS] at e1
  have e2' : (F_RideLawsModel_most_192_l9 (6 + 1) χ0 (-1) 0).1 = s := congrArg Prod.fst e2
  rw [F_RideLawsModel_most_192_l9_s] at e2'
  by_cases c1 : χ0 194 3 ≤ 0
  · rw [if_pos c1] at e2'
    have := allz (fun j hj => by omega)
    rw [if_neg (fun q => q this)] at e1
    exact e1.symm.trans e2'
  · rw [if_neg c1, show (166 + (0 : Int)).toNat = 166 from rfl, show jm_n (χ0 194 166) = χ0 194 166 from hi_n (by unfold hi; omega)] at e2'
    have fin : ∀ b : Int, (F_RideLawsModel_most_192_l9 6 χ0 b (0 + 1)).1 = s → ((b = -1 ∧ (0 : Int) = 0 ∧ ∀ j : Nat, (j : Int) < 1 → χ0 194 (166 + j) = 0) ∨ (b = 0 ∧ (0 : Int) ≤ 0 ∧ (0 : Int) < 1 ∧ 0 < χ0 194 (166 + (0 : Int).toNat))) → r = s := fun b hb hR => by
      rcases mo_l k3 e24 hm (by omega) 6 ((6 - 1 : Int).toNat + 1) b 0 1 (by decide) (by decide) (by decide) (by decide) hR with ⟨g1, g2⟩ | ⟨g1, g2⟩
      · rw [if_neg (fun q => q (allz g2))] at e1
        exact (e1.symm.trans g1.symm).trans hb
      · rw [if_pos (some1 g2)] at e1
        exact (e1.symm.trans g1.symm).trans hb
    by_cases c2 : χ0 194 166 ≤ 0
    · rw [if_pos c2] at e2'
      refine fin (-1) e2' (Or.inl ⟨rfl, rfl, fun j hj => ?_⟩)
      rw [show j = 0 by omega]
      show χ0 194 166 = 0
      omega
    · rw [if_neg c2, if_pos (by decide)] at e2'
      exact fin 0 e2' (Or.inr ⟨rfl, by decide, by decide, show 0 < χ0 194 166 by omega⟩)
