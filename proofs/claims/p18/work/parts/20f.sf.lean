theorem sf_42_31_k1_2_v3 {sc : List Int} {d : Nat} {φ : hf_F} {x : Nat} {Q : Option jm_V → hf_F → Nat → Prop} {L : jm_L} {l2 l4 : Int} (g0 : jm_get L 0 = some (2, 31)) (g1 : jm_get L 1 = some (0, 2)) (g2 : jm_get L 2 = some (1, l2)) (g4 : jm_get L 4 = some (0, l4))
    (H : hi l4 ∧ hi (φ 32 2) ∧ ((φ 32 2) ≤ l4 → Q (some (0, (-1 : Int))) φ x) ∧ (¬ (φ 32 2) ≤ l4 → 0 ≤ (16 + l4) ∧ (16 + l4) < 40 ∧ (hi (jm_cmp (φ 33 ((16 + l4).toNat)) l2) ∧ (¬ (jm_cmp (φ 33 ((16 + l4).toNat)) l2) = 0 → hw sc d 42 3 (jm_st1 L 4 (0, l4 + 1)) [] φ x Q) ∧ (¬ (¬ (jm_cmp (φ 33 ((16 + l4).toNat)) l2) = 0) → Q (some (0, l4)) φ x)))) :
    hw sc d 42 3 L [] φ x Q := by
  refine hw_ld (b := 4) (e := 1) (by decide +kernel) g4 ?_
  refine hw_ald (b := 0) (e := 0) (by decide +kernel) g0 (by decide) ?_
  refine hr_gr (w := 32) (b := 3) (e := 0) 31 rfl (by decide +kernel) ?_
  refine hw_ld (b := 1) (e := 0) (by decide +kernel) g1 ?_
  refine hr_al (b := 0) (a0 := 0) (e := 0) (n := 5) (w := φ 32 2) 32 rfl (by decide +kernel) (by decide) (by decide) (by decide) rfl ?_
  obtain ⟨hz1, hy1, ht1, hf1⟩ := H
  refine hw_if2 (a0 := 0) (b := 3) (e := 40) (by decide +kernel) hz1 hy1 (fun q => ?_) (fun q => ?_)
  · have H := ht1 q
    refine hw_k (c := (-1 : Int)) (b := 0) (e := 1) (by decide +kernel) ?_
    exact hw_ret (a0 := 0) (e := 0) (by decide +kernel) (Or.inl rfl) H
  · have H := hf1 q
    refine hw_ald (b := 0) (e := 0) (by decide +kernel) g0 (by decide) ?_
    refine hr_gr (w := 33) (b := 3) (e := 1) 31 rfl (by decide +kernel) ?_
    refine hw_ld (b := 1) (e := 0) (by decide +kernel) g1 ?_
    refine hw_k (c := 8) (b := 1) (e := 2) (by decide +kernel) ?_
    refine hw_bin (w := 16) (a0 := 0) (b := 2) (e := 0) (by decide +kernel) rfl ?_
    refine hw_ld (b := 4) (e := 1) (by decide +kernel) g4 ?_
    refine hw_bin (w := 16 + l4) (a0 := 0) (b := 0) (e := 0) (by decide +kernel) rfl ?_
    obtain ⟨hl3, hu3, H⟩ := H
    refine hr_all (a0 := 0) (e := 0) (n := 40) (w := φ 33 ((16 + l4).toNat)) 33 rfl (by decide +kernel) hl3 hu3 rfl ?_
    refine hw_lld (b := 2) (e := 0) (by decide +kernel) g2 ?_
    refine hw_lcmp (w := jm_cmp (φ 33 ((16 + l4).toNat)) l2) (a0 := 0) (b := 0) (e := 0) (by decide +kernel) rfl ?_
    obtain ⟨hz4, ht4, hf4⟩ := H
    refine hw_if (a0 := 0) (b := 1) (e := 34) (by decide +kernel) hz4 (fun q => ?_) (fun q => ?_)
    · have H := ht4 q
      refine hw_inc (L' := (jm_st1 L 4 (0, l4 + 1))) (c := 1) (b := 4) (e := 0) (by decide +kernel) g4 rfl ?_
      refine hw_goto (a0 := 0) (b := 0) (e := 3) (by decide +kernel) ?_
      exact H
    · have H := hf4 q
      refine hw_ld (b := 4) (e := 1) (by decide +kernel) g4 ?_
      exact hw_ret (a0 := 0) (e := 0) (by decide +kernel) (Or.inl rfl) H
theorem sf_42_31_k1_2_l3 {sc : List Int} {d x : Nat} {Q : Option jm_V → hf_F → Nat → Prop} : ∀ (n : Nat) (φ : hf_F) (L : jm_L) (l2 l4 : Int), jm_get L 0 = some (2, 31) → jm_get L 1 = some (0, 2) → jm_get L 2 = some (1, l2) → jm_get L 4 = some (0, l4) → Inv φ → 8 - l4 < (n : Int) → 0 ≤ l4 → l4 ≤ 8 → (∀ (r : Int), (-1 : Int) ≤ r ∧ r ≤ 7 ∧ (r = -1 ∨ (0 ≤ r ∧ r < φ 32 2 ∧ φ 32 2 ≤ 8)) → F_Plan_numberOf_31_k1_2_l3 n φ l2 l4 = r → Q (some (0, r)) φ x) → hw sc d 42 3 L [] φ x Q := by
  intro n
  induction n with
  | zero =>
    intro φ L l2 l4 g0 g1 g2 g4 hI hM b4a b4b hQ
    exfalso
    omega
  | succ n ih =>
    intro φ L l2 l4 g0 g1 g2 g4 hI hM b4a b4b hQ
    refine sf_42_31_k1_2_v3 g0 g1 g2 g4 ?_
    have e0 := F_Plan_numberOf_31_k1_2_l3_s (φ := φ) (l2 := l2) (l4 := l4) n
    have f1 := iv_at (a := 32) (k := 2) (lo := 0) (u := 8) hI (by decide +kernel)
    refine ⟨by unfold hi; omega, by unfold hi; omega, fun q1 => ?_, fun q1 => ?_⟩
    · skip
      have e1a := e0.trans (if_pos q1)
      exact hQ (-1 : Int) ⟨by omega, by omega, by omega⟩ e1a
    · skip
      have e1b := e0.trans (if_neg q1)
      refine ⟨by omega, by omega, ?_⟩
      have f2 := hr_cmp (φ 33 ((16 + l4).toNat)) l2
      refine ⟨by unfold hi; omega, fun q4 => ?_, fun q4 => ?_⟩
      · skip
        have e4a := e1b.trans (if_pos q4)
        exact ih φ (jm_st1 L 4 (0, l4 + 1)) l2 (l4 + 1) (get_st1 g0 (by decide) (fun q => absurd q.1 (by decide))) (get_st1 g1 (by decide) (fun q => absurd q.1 (by decide))) (get_st1 g2 (by decide) (fun q => absurd q.1 (by decide))) get_st1e hI (by omega) (by omega) (by omega) (fun rr hpχ hEχ => hQ rr hpχ (e4a.trans hEχ))
      · skip
        have e4b := e1b.trans (if_neg q4)
        exact hQ l4 ⟨by omega, by omega, by omega⟩ e4b
theorem sf_42_31_k1_2_v {sc : List Int} {d : Nat} {φ : hf_F} {x : Nat} {Q : Option jm_V → hf_F → Nat → Prop} {v2 : Int}
    (H : hw sc d 42 3 (jm_st1 [(0, (2, 31)), (1, (0, 2)), (2, (1, v2))] 4 (0, 0)) [] φ x Q) :
    hw sc d 42 0 [(0, (2, 31)), (1, (0, 2)), (2, (1, v2))] [] φ x Q := by
  refine hw_k (c := 0) (b := 0) (e := 1) (by decide +kernel) ?_
  refine hw_st (L' := (jm_st1 [(0, (2, 31)), (1, (0, 2)), (2, (1, v2))] 4 (0, 0))) (b := 4) (e := 1) (by decide +kernel) rfl ?_
  exact H
theorem sf_42_31_k1_2 {sc : List Int} {d : Nat} {φ : hf_F} {x : Nat} {Q : Option jm_V → hf_F → Nat → Prop} {v2 : Int} (hI : Inv φ)  (hQ : ∀ (r : Int), (-1 : Int) ≤ r ∧ r ≤ 7 ∧ (r = -1 ∨ (0 ≤ r ∧ r < φ 32 2 ∧ φ 32 2 ≤ 8)) → F_Plan_numberOf_31_k1_2 φ v2 = r → Q (some (0, r)) φ x) : hw sc d 42 0 [(0, (2, 31)), (1, (0, 2)), (2, (1, v2))] [] φ x Q := by
  apply sf_42_31_k1_2_v
  have e0 : F_Plan_numberOf_31_k1_2 φ v2 = _ := rfl
  exact sf_42_31_k1_2_l3 ((8 - 0 : Int).toNat + 1) φ (jm_st1 [(0, (2, 31)), (1, (0, 2)), (2, (1, v2))] 4 (0, 0)) v2 0 (get_st1 rfl (by decide) (fun q => absurd q.1 (by decide))) (get_st1 rfl (by decide) (fun q => absurd q.1 (by decide))) (get_st1 rfl (by decide) (fun q => absurd q.1 (by decide))) get_st1e hI (by omega) (by omega) (by omega) (fun rr hpχ hEχ => hQ rr hpχ (e0.trans hEχ))
theorem sf_47_1_31_k2_2_v {sc : List Int} {d : Nat} {φ : hf_F} {x : Nat} {Q : Option jm_V → hf_F → Nat → Prop} 
    (H : hi (φ 1 5) ∧ hi 2 ∧ ((φ 1 5) = 2 → hw sc d 42 0 [(0, (2, 31)), (1, (0, 2)), (2, (1, φ 1 8))] [] φ x (fun r ψ2 y2 => y2 = x ∧ φ = ψ2 ∧ (∃ z2 : Int, r = some (0, z2) ∧ (hi z2 ∧ hi (-1 : Int) ∧ (¬ z2 = (-1 : Int) → Q (some (0, z2)) φ x) ∧ (¬ (¬ z2 = (-1 : Int)) → hw sc d 37 0 [(0, (2, 1)), (1, (0, 3))] [] φ x (fun r ψ5 y5 => y5 = x ∧ (∃ z5 : Int, r = some (0, z5) ∧ (Q (some (0, z2)) ψ5 x)))))))) ∧ (¬ (φ 1 5) = 2 → hw sc d 37 0 [(0, (2, 1)), (1, (0, 1))] [] φ x (fun r ψ7 y7 => y7 = x ∧ (∃ z7 : Int, r = some (0, z7) ∧ (Q (some (0, (-1 : Int))) ψ7 x))))) :
    hw sc (d + 1) 47 0 [(0, (2, 1)), (1, (2, 31)), (2, (0, 2))] [] φ x Q := by
  refine hw_ald (b := 0) (e := 0) (by decide +kernel) rfl (by decide) ?_
  refine hr_gi (w := φ 1 5) (b := 1) (e := 5) 1 rfl (by decide +kernel) rfl ?_
  refine hw_k (c := 2) (b := 0) (e := 1) (by decide +kernel) ?_
  obtain ⟨hz1, hy1, ht1, hf1⟩ := H
  refine hw_if2 (a0 := 0) (b := 0) (e := 16) (by decide +kernel) hz1 hy1 (fun q => ?_) (fun q => ?_)
  · have H := ht1 q
    refine hw_ald (b := 1) (e := 0) (by decide +kernel) rfl (by decide) ?_
    refine hw_ld (b := 2) (e := 0) (by decide +kernel) rfl ?_
    refine hw_ald (b := 0) (e := 0) (by decide +kernel) rfl (by decide) ?_
    refine hr_gl (w := φ 1 8) (b := 1) (e := 8) 1 rfl (by decide +kernel) rfl ?_
    refine hr_call (a0 := 13) (b := 42) (e := 3) (nl := 5) (As := [(0, 2), (1, φ 1 8)]) (R := []) 31 rfl (by decide +kernel) rfl rfl (Nat.le_of_ble_eq_true rfl) (Nat.le_of_ble_eq_true rfl) ?_
    refine hw_mono H ?_
    rintro r ψ2 y2 ⟨hyx, hψx, z2, hr, H⟩
    subst hyx
    subst hψx
    subst hr
    refine ⟨hne0, ?_⟩
    show hw sc (d + 1) 47 25 [(0, (2, 1)), (1, (2, 31)), (2, (0, 2))] [(0, z2)] φ y2 Q
    refine hw_st (L' := (jm_st1 [(0, (2, 1)), (1, (2, 31)), (2, (0, 2))] 3 (0, z2))) (b := 3) (e := 0) (by decide +kernel) rfl ?_
    refine hw_ld (b := 3) (e := 0) (by decide +kernel) get_st1e ?_
    refine hw_k (c := (-1 : Int)) (b := 0) (e := 1) (by decide +kernel) ?_
    obtain ⟨hz3, hy3, ht3, hf3⟩ := H
    refine hw_if2 (a0 := 0) (b := 1) (e := 37) (by decide +kernel) hz3 hy3 (fun q => ?_) (fun q => ?_)
    · have H := ht3 q
      refine hw_ld (b := 3) (e := 0) (by decide +kernel) get_st1e ?_
      exact hw_ret (a0 := 0) (e := 0) (by decide +kernel) (Or.inl rfl) H
    · have H := hf3 q
      refine hw_ald (b := 0) (e := 0) (by decide +kernel) (get_st1 rfl (by decide) (fun q => absurd q.1 (by decide))) (by decide) ?_
      refine hw_k (c := 3) (b := 0) (e := 1) (by decide +kernel) ?_
      refine hr_call (a0 := 11) (b := 37) (e := 2) (nl := 2) (As := [(0, 3)]) (R := []) 1 rfl (by decide +kernel) rfl rfl (Nat.le_of_ble_eq_true rfl) (Nat.le_of_ble_eq_true rfl) ?_
      refine hw_mono H ?_
      rintro r ψ5 y5 ⟨hyx, z5, hr, H⟩
      subst hyx
      subst hr
      refine ⟨hne0, ?_⟩
      show hw sc (d + 1) 47 36 (jm_st1 [(0, (2, 1)), (1, (2, 31)), (2, (0, 2))] 3 (0, z2)) [(0, z5)] ψ5 y5 Q
      refine hw_pop (a0 := 0) (e := 0) (by decide +kernel) (by decide) ?_
      refine hw_ld (b := 3) (e := 0) (by decide +kernel) get_st1e ?_
      exact hw_ret (a0 := 0) (e := 0) (by decide +kernel) (Or.inl rfl) H
  · have H := hf1 q
    refine hw_ald (b := 0) (e := 0) (by decide +kernel) rfl (by decide) ?_
    refine hw_k (c := 1) (b := 0) (e := 1) (by decide +kernel) ?_
    refine hr_call (a0 := 11) (b := 37) (e := 2) (nl := 2) (As := [(0, 1)]) (R := []) 1 rfl (by decide +kernel) rfl rfl (Nat.le_of_ble_eq_true rfl) (Nat.le_of_ble_eq_true rfl) ?_
    refine hw_mono H ?_
    rintro r ψ7 y7 ⟨hyx, z7, hr, H⟩
    subst hyx
    subst hr
    refine ⟨hne0, ?_⟩
    show hw sc (d + 1) 47 13 [(0, (2, 1)), (1, (2, 31)), (2, (0, 2))] [(0, z7)] ψ7 y7 Q
    refine hw_pop (a0 := 0) (e := 0) (by decide +kernel) (by decide) ?_
    refine hw_k (c := (-1 : Int)) (b := 0) (e := 1) (by decide +kernel) ?_
    exact hw_ret (a0 := 0) (e := 0) (by decide +kernel) (Or.inl rfl) H
theorem sf_47_1_31_k2_2 {sc : List Int} {d : Nat} {φ : hf_F} {x : Nat} {Q : Option jm_V → hf_F → Nat → Prop}  (hI : Inv φ)  (hQ : ∀ (r : Int) (ψ : hf_F), Inv ψ → Fr [2009, 2010] φ ψ → (-1 : Int) ≤ r ∧ r ≤ 7 ∧ (r = -1 ∨ (0 ≤ r ∧ r < φ 32 2 ∧ φ 32 2 ≤ 8)) → F_Reader_peekNamed_1_31_k2_2 φ = (r, ψ) → Q (some (0, r)) ψ x) : hw sc (d + 1) 47 0 [(0, (2, 1)), (1, (2, 31)), (2, (0, 2))] [] φ x Q := by
  apply sf_47_1_31_k2_2_v
  have e0 : F_Reader_peekNamed_1_31_k2_2 φ = _ := rfl
  have f1 := iv_at (a := 1) (k := 5) (lo := 0) (u := 5) hI (by decide +kernel)
  refine ⟨by unfold hi; omega, by unfold hi; omega, fun q1 => ?_, fun q1 => ?_⟩
  · skip
    have e1a := e0.trans (if_pos q1)
    refine sf_42_31_k1_2 (φ := φ) hI  (fun z2 hp2 hE2 => ⟨rfl, rfl, z2, rfl, ?_⟩)
    have e2 := e1a.trans (bnp_e hE2)
    have f2 := iv_at (a := 32) (k := 2) (lo := 0) (u := 8) hI (by decide +kernel)
    refine ⟨by unfold hi; omega, by unfold hi; omega, fun q3 => ?_, fun q3 => ?_⟩
    · skip
      have e3a := e2.trans (if_pos q3)
      exact hQ z2 φ hI (fr_rf) ⟨by omega, by omega, by omega⟩ e3a
    · skip
      have e3b := e2.trans (if_neg q3)
      refine sf_37_1 (φ := φ) hI (by omega) (by omega) (fun z5 ψ5 hI5 hF5 hp5 hE5 => ⟨rfl, z5, rfl, ?_⟩)
      have hG5 : Fr [2009, 2010] φ ψ5 := fr_tr (fr_rf) hF5 (by decide)
      have e5 := e3b.trans (bnd_e hE5)
      exact hQ z2 ψ5 hI5 hG5 ⟨by omega, by omega, by omega⟩ e5
  · skip
    have e1b := e0.trans (if_neg q1)
    refine sf_37_1 (φ := φ) hI (by omega) (by omega) (fun z7 ψ7 hI7 hF7 hp7 hE7 => ⟨rfl, z7, rfl, ?_⟩)
    have hG7 : Fr [2009, 2010] φ ψ7 := fr_tr (fr_rf) hF7 (by decide)
    have e7 := e1b.trans (bnd_e hE7)
    have f3 := iv_at (a := 32) (k := 2) (lo := 0) (u := 8) hI (by decide +kernel)
    exact hQ (-1 : Int) ψ7 hI7 hG7 ⟨by omega, by omega, by omega⟩ e7
theorem sf_55_43_v {sc : List Int} {d : Nat} {φ : hf_F} {x : Nat} {Q : Option jm_V → hf_F → Nat → Prop} {v1 v2 : Int}
    (H : 0 ≤ v1 ∧ v1 < 6 ∧ (0 ≤ ((v1 * 6) + (φ 47 ((v1).toNat))) ∧ ((v1 * 6) + (φ 47 ((v1).toNat))) < 36 ∧ (0 ≤ v1 ∧ v1 < 6 ∧ (0 ≤ v1 ∧ v1 < 6 ∧ (Q none (hf_up (hf_up φ 48 (((v1 * 6) + (φ 47 ((v1).toNat))).toNat) v2) 47 ((v1).toNat) ((φ 47 ((v1).toNat)) + 1)) x))))) :
    hw sc d 55 0 [(0, (2, 43)), (1, (0, v1)), (2, (0, v2))] [] φ x Q := by
  refine hw_ald (b := 0) (e := 0) (by decide +kernel) rfl (by decide) ?_
  refine hr_gr (w := 48) (b := 4) (e := 10) 43 rfl (by decide +kernel) ?_
  refine hw_ld (b := 1) (e := 0) (by decide +kernel) rfl ?_
  refine hw_k (c := 6) (b := 1) (e := 2) (by decide +kernel) ?_
  refine hw_bin (w := v1 * 6) (a0 := 0) (b := 2) (e := 0) (by decide +kernel) rfl ?_
  refine hw_ald (b := 0) (e := 0) (by decide +kernel) rfl (by decide) ?_
  refine hr_gr (w := 47) (b := 4) (e := 9) 43 rfl (by decide +kernel) ?_
  refine hw_ld (b := 1) (e := 0) (by decide +kernel) rfl ?_
  obtain ⟨hl1, hu1, H⟩ := H
  refine hr_al (b := 0) (a0 := 0) (e := 0) (n := 6) (w := φ 47 ((v1).toNat)) 47 rfl (by decide +kernel) (by decide) hl1 hu1 rfl ?_
  refine hw_bin (w := (v1 * 6) + (φ 47 ((v1).toNat))) (a0 := 0) (b := 0) (e := 0) (by decide +kernel) rfl ?_
  refine hw_ld (b := 2) (e := 0) (by decide +kernel) rfl ?_
  obtain ⟨hl2, hu2, H⟩ := H
  refine hr_as (a0 := 0) (e := 4) (n := 36) 48 rfl (by decide +kernel) hl2 hu2 ?_
  refine hw_ald (b := 0) (e := 0) (by decide +kernel) rfl (by decide) ?_
  refine hr_gr (w := 47) (b := 4) (e := 9) 43 rfl (by decide +kernel) ?_
  refine hw_ld (b := 1) (e := 0) (by decide +kernel) rfl ?_
  refine hw_dup2 (a0 := 0) (e := 0) (by decide +kernel) (by decide) (by decide) ?_
  obtain ⟨hl3, hu3, H⟩ := H
  refine hr_al (b := 0) (a0 := 0) (e := 0) (n := 6) (w := φ 47 ((v1).toNat)) 47 rfl (by decide +kernel) (by decide) hl3 hu3 (hf_up_ne (fun q => absurd q.1 (by decide))) ?_
  refine hw_k (c := 1) (b := 0) (e := 1) (by decide +kernel) ?_
  refine hw_bin (w := (φ 47 ((v1).toNat)) + 1) (a0 := 0) (b := 0) (e := 0) (by decide +kernel) rfl ?_
  obtain ⟨hl4, hu4, H⟩ := H
  refine hr_as (a0 := 0) (e := 4) (n := 6) 47 rfl (by decide +kernel) hl4 hu4 ?_
  exact hw_vret (a0 := 0) (e := 0) (by decide +kernel) H
theorem sf_55_43 {sc : List Int} {d : Nat} {φ : hf_F} {x : Nat} {Q : Option jm_V → hf_F → Nat → Prop} {v1 v2 : Int} (hI : Inv φ) (h1a : 0 ≤ v1) (h1b : v1 ≤ 5) (h2a : 0 ≤ v2) (h2b : v2 ≤ 7) (hx0 : 0 ≤ φ 47 ((v1).toNat) ∧ φ 47 ((v1).toNat) ≤ 5) (hQ : ∀ ψ : hf_F, Inv ψ → Fr [47, 48] φ ψ → F_State_addWord_43 φ v1 v2 = ψ → Q none ψ x) : hw sc d 55 0 [(0, (2, 43)), (1, (0, v1)), (2, (0, v2))] [] φ x Q := by
  apply sf_55_43_v
  have e0 : F_State_addWord_43 φ v1 v2 = _ := rfl
  refine ⟨by omega, by omega, ?_⟩
  have f1 := iv_ar (a := 47) (s := 0) (t := 6) (lo := 0) (u := 6) (z := v1) hI (by decide +kernel) (by omega) (by omega)
  refine ⟨by omega, by omega, ?_⟩
  have i2 : Inv (hf_up φ 48 (((v1 * 6) + (φ 47 ((v1).toNat))).toNat) v2) := iv_upI (s := 0) (t := 36) (lo := 0) (u := 7) (z := (v1 * 6) + (φ 47 ((v1).toNat))) hI (by decide +kernel) (by omega) (by omega) (by omega) (by omega)
  have r2 : Fr [47, 48] φ (hf_up φ 48 (((v1 * 6) + (φ 47 ((v1).toNat))).toNat) v2) := fr_upa (fr_rf) (by decide)
  refine ⟨by omega, by omega, ?_⟩
  refine ⟨by omega, by omega, ?_⟩
  have i3 : Inv (hf_up (hf_up φ 48 (((v1 * 6) + (φ 47 ((v1).toNat))).toNat) v2) 47 ((v1).toNat) ((φ 47 ((v1).toNat)) + 1)) := iv_upI (s := 0) (t := 6) (lo := 0) (u := 6) (z := v1) i2 (by decide +kernel) (by omega) (by omega) (by omega) (by omega)
  have r3 : Fr [47, 48] φ (hf_up (hf_up φ 48 (((v1 * 6) + (φ 47 ((v1).toNat))).toNat) v2) 47 ((v1).toNat) ((φ 47 ((v1).toNat)) + 1)) := fr_upa r2 (by decide)
  exact hQ (hf_up (hf_up φ 48 (((v1 * 6) + (φ 47 ((v1).toNat))).toNat) v2) 47 ((v1).toNat) ((φ 47 ((v1).toNat)) + 1)) i3 r3 e0
theorem sf_53_182_v {sc : List Int} {d : Nat} {φ : hf_F} {x : Nat} {Q : Option jm_V → hf_F → Nat → Prop} 
    (H : hw sc (d + 2) 29 0 [(0, (2, 1))] [] φ x (fun r ψ1 y1 => y1 = x ∧ (r = none ∧ (hw sc (d + 2) 47 0 [(0, (2, 1)), (1, (2, 31)), (2, (0, 3))] [] ψ1 x (fun r ψ2 y2 => y2 = x ∧ (∃ z2 : Int, r = some (0, z2) ∧ (hi z2 ∧ hi (-1 : Int) ∧ (¬ z2 = (-1 : Int) → hw sc (d + 2) 54 0 [(0, (2, 43)), (1, (0, z2))] [] ψ2 x (fun r ψ4 y4 => y4 = x ∧ ψ2 = ψ4 ∧ (∃ z4 : Int, r = some (0, z4) ∧ (hi z4 ∧ (z4 = 0 → hw sc (d + 2) 29 0 [(0, (2, 1))] [] ψ2 x (fun r ψ6 y6 => y6 = x ∧ (r = none ∧ (hw sc (d + 2) 47 0 [(0, (2, 1)), (1, (2, 31)), (2, (0, 2))] [] ψ6 x (fun r ψ7 y7 => y7 = x ∧ (∃ z7 : Int, r = some (0, z7) ∧ (hi z7 ∧ hi (-1 : Int) ∧ (¬ z7 = (-1 : Int) → hw sc (d + 2) 29 0 [(0, (2, 1))] [] ψ7 x (fun r ψ9 y9 => y9 = x ∧ (r = none ∧ (hw sc (d + 2) 55 0 [(0, (2, 43)), (1, (0, z2)), (2, (0, z7))] [] ψ9 x (fun r ψ10 y10 => y10 = x ∧ (r = none ∧ (Q (some (0, 1)) ψ10 x))))))) ∧ (¬ (¬ z7 = (-1 : Int)) → Q (some (0, 0)) ψ7 x)))))))) ∧ (¬ z4 = 0 → hw sc (d + 2) 37 0 [(0, (2, 1)), (1, (0, 4))] [] ψ2 x (fun r ψ13 y13 => y13 = x ∧ (∃ z13 : Int, r = some (0, z13) ∧ ((z13 = 0 ∨ z13 = 1) ∧ Q (some (0, z13)) ψ13 x)))))))) ∧ (¬ (¬ z2 = (-1 : Int)) → Q (some (0, 0)) ψ2 x)))))))) :
    hw sc (d + 3) 53 0 [(0, (2, 182))] [] φ x Q := by
  refine hw_ald (b := 0) (e := 0) (by decide +kernel) rfl (by decide) ?_
  refine hr_gr (w := 1) (b := 7) (e := 0) 182 rfl (by decide +kernel) ?_
  refine hr_call (a0 := 11) (b := 29) (e := 1) (nl := 1) (As := []) (R := []) 1 rfl (by decide +kernel) rfl rfl (Nat.le_of_ble_eq_true rfl) (Nat.le_of_ble_eq_true rfl) ?_
  refine hw_mono H ?_
  rintro r ψ1 y1 ⟨hyx, hr, H⟩
  subst hyx
  subst hr
  refine ⟨hnen, ?_⟩
  show hw sc (d + 3) 53 7 [(0, (2, 182))] [] ψ1 y1 Q
  refine hw_ald (b := 0) (e := 0) (by decide +kernel) rfl (by decide) ?_
  refine hr_gr (w := 1) (b := 7) (e := 0) 182 rfl (by decide +kernel) ?_
  refine hw_ald (b := 0) (e := 0) (by decide +kernel) rfl (by decide) ?_
  refine hr_gr (w := 31) (b := 7) (e := 1) 182 rfl (by decide +kernel) ?_
  refine hw_k (c := 3) (b := 0) (e := 1) (by decide +kernel) ?_
  refine hr_call (a0 := 11) (b := 47) (e := 3) (nl := 4) (As := [(2, 31), (0, 3)]) (R := []) 1 rfl (by decide +kernel) rfl rfl (Nat.le_of_ble_eq_true rfl) (Nat.le_of_ble_eq_true rfl) ?_
  refine hw_mono H ?_
  rintro r ψ2 y2 ⟨hyx, z2, hr, H⟩
  subst hyx
  subst hr
  refine ⟨hne0, ?_⟩
  show hw sc (d + 3) 53 19 [(0, (2, 182))] [(0, z2)] ψ2 y2 Q
  refine hw_st (L' := (jm_st1 [(0, (2, 182))] 1 (0, z2))) (b := 1) (e := 0) (by decide +kernel) rfl ?_
  refine hw_ld (b := 1) (e := 0) (by decide +kernel) get_st1e ?_
  refine hw_k (c := (-1 : Int)) (b := 0) (e := 1) (by decide +kernel) ?_
  obtain ⟨hz3, hy3, ht3, hf3⟩ := H
  refine hw_if2 (a0 := 0) (b := 1) (e := 27) (by decide +kernel) hz3 hy3 (fun q => ?_) (fun q => ?_)
  · have H := ht3 q
    refine hw_ald (b := 0) (e := 0) (by decide +kernel) (get_st1 rfl (by decide) (fun q => tg2 q.2)) (by decide) ?_
    refine hr_gr (w := 43) (b := 7) (e := 2) 182 rfl (by decide +kernel) ?_
    refine hw_ld (b := 1) (e := 0) (by decide +kernel) get_st1e ?_
    refine hr_call (a0 := 14) (b := 54) (e := 2) (nl := 2) (As := [(0, z2)]) (R := []) 43 rfl (by decide +kernel) rfl rfl (Nat.le_of_ble_eq_true rfl) (Nat.le_of_ble_eq_true rfl) ?_
    refine hw_mono H ?_
    rintro r ψ4 y4 ⟨hyx, hψx, z4, hr, H⟩
    subst hyx
    subst hψx
    subst hr
    refine ⟨hne0, ?_⟩
    show hw sc (d + 3) 53 35 (jm_st1 [(0, (2, 182))] 1 (0, z2)) [(0, z4)] ψ2 y4 Q
    obtain ⟨hz5, ht5, hf5⟩ := H
    refine hw_if (a0 := 0) (b := 0) (e := 47) (by decide +kernel) hz5 (fun q => ?_) (fun q => ?_)
    · have H := ht5 q
      refine hw_ald (b := 0) (e := 0) (by decide +kernel) (get_st1 rfl (by decide) (fun q => tg2 q.2)) (by decide) ?_
      refine hr_gr (w := 1) (b := 7) (e := 0) 182 rfl (by decide +kernel) ?_
      refine hr_call (a0 := 11) (b := 29) (e := 1) (nl := 1) (As := []) (R := []) 1 rfl (by decide +kernel) rfl rfl (Nat.le_of_ble_eq_true rfl) (Nat.le_of_ble_eq_true rfl) ?_
      refine hw_mono H ?_
      rintro r ψ6 y6 ⟨hyx, hr, H⟩
      subst hyx
      subst hr
      refine ⟨hnen, ?_⟩
      show hw sc (d + 3) 53 54 (jm_st1 [(0, (2, 182))] 1 (0, z2)) [] ψ6 y6 Q
      refine hw_ald (b := 0) (e := 0) (by decide +kernel) (get_st1 rfl (by decide) (fun q => tg2 q.2)) (by decide) ?_
      refine hr_gr (w := 1) (b := 7) (e := 0) 182 rfl (by decide +kernel) ?_
      refine hw_ald (b := 0) (e := 0) (by decide +kernel) (get_st1 rfl (by decide) (fun q => tg2 q.2)) (by decide) ?_
      refine hr_gr (w := 31) (b := 7) (e := 1) 182 rfl (by decide +kernel) ?_
      refine hw_k (c := 2) (b := 0) (e := 1) (by decide +kernel) ?_
      refine hr_call (a0 := 11) (b := 47) (e := 3) (nl := 4) (As := [(2, 31), (0, 2)]) (R := []) 1 rfl (by decide +kernel) rfl rfl (Nat.le_of_ble_eq_true rfl) (Nat.le_of_ble_eq_true rfl) ?_
      refine hw_mono H ?_
      rintro r ψ7 y7 ⟨hyx, z7, hr, H⟩
      subst hyx
      subst hr
      refine ⟨hne0, ?_⟩
      show hw sc (d + 3) 53 66 (jm_st1 [(0, (2, 182))] 1 (0, z2)) [(0, z7)] ψ7 y7 Q
      refine hw_st (L' := (jm_st1 (jm_st1 [(0, (2, 182))] 1 (0, z2)) 2 (0, z7))) (b := 2) (e := 0) (by decide +kernel) rfl ?_
      refine hw_ld (b := 2) (e := 0) (by decide +kernel) get_st1e ?_
      refine hw_k (c := (-1 : Int)) (b := 0) (e := 1) (by decide +kernel) ?_
      obtain ⟨hz8, hy8, ht8, hf8⟩ := H
      refine hw_if2 (a0 := 0) (b := 1) (e := 74) (by decide +kernel) hz8 hy8 (fun q => ?_) (fun q => ?_)
      · have H := ht8 q
        refine hw_ald (b := 0) (e := 0) (by decide +kernel) (get_st1 (get_st1 rfl (by decide) (fun q => tg2 q.2)) (by decide) (fun q => absurd q.1 (by decide))) (by decide) ?_
        refine hr_gr (w := 1) (b := 7) (e := 0) 182 rfl (by decide +kernel) ?_
        refine hr_call (a0 := 11) (b := 29) (e := 1) (nl := 1) (As := []) (R := []) 1 rfl (by decide +kernel) rfl rfl (Nat.le_of_ble_eq_true rfl) (Nat.le_of_ble_eq_true rfl) ?_
        refine hw_mono H ?_
        rintro r ψ9 y9 ⟨hyx, hr, H⟩
        subst hyx
        subst hr
        refine ⟨hnen, ?_⟩
        show hw sc (d + 3) 53 81 (jm_st1 (jm_st1 [(0, (2, 182))] 1 (0, z2)) 2 (0, z7)) [] ψ9 y9 Q
        refine hw_ald (b := 0) (e := 0) (by decide +kernel) (get_st1 (get_st1 rfl (by decide) (fun q => tg2 q.2)) (by decide) (fun q => absurd q.1 (by decide))) (by decide) ?_
        refine hr_gr (w := 43) (b := 7) (e := 2) 182 rfl (by decide +kernel) ?_
        refine hw_ld (b := 1) (e := 0) (by decide +kernel) (get_st1 get_st1e (by decide) (fun q => tg0 q.2)) ?_
        refine hw_ld (b := 2) (e := 0) (by decide +kernel) get_st1e ?_
        refine hr_call (a0 := 14) (b := 55) (e := 3) (nl := 3) (As := [(0, z2), (0, z7)]) (R := []) 43 rfl (by decide +kernel) rfl rfl (Nat.le_of_ble_eq_true rfl) (Nat.le_of_ble_eq_true rfl) ?_
        refine hw_mono H ?_
        rintro r ψ10 y10 ⟨hyx, hr, H⟩
        subst hyx
        subst hr
        refine ⟨hnen, ?_⟩
        show hw sc (d + 3) 53 90 (jm_st1 (jm_st1 [(0, (2, 182))] 1 (0, z2)) 2 (0, z7)) [] ψ10 y10 Q
        refine hw_k (c := 1) (b := 0) (e := 1) (by decide +kernel) ?_
        exact hw_ret (a0 := 0) (e := 1) (by decide +kernel) (Or.inr ⟨rfl, by decide⟩) H
      · have H := hf8 q
        refine hw_k (c := 0) (b := 0) (e := 1) (by decide +kernel) ?_
        exact hw_ret (a0 := 0) (e := 1) (by decide +kernel) (Or.inr ⟨rfl, by decide⟩) H
    · have H := hf5 q
      refine hw_ald (b := 0) (e := 0) (by decide +kernel) (get_st1 rfl (by decide) (fun q => tg2 q.2)) (by decide) ?_
      refine hr_gr (w := 1) (b := 7) (e := 0) 182 rfl (by decide +kernel) ?_
      refine hw_k (c := 4) (b := 0) (e := 1) (by decide +kernel) ?_
      refine hr_call (a0 := 11) (b := 37) (e := 2) (nl := 2) (As := [(0, 4)]) (R := []) 1 rfl (by decide +kernel) rfl rfl (Nat.le_of_ble_eq_true rfl) (Nat.le_of_ble_eq_true rfl) ?_
      refine hw_mono H ?_
      rintro r ψ13 y13 ⟨hyx, z13, hr, H⟩
      subst hyx
      subst hr
      refine ⟨hne0, ?_⟩
      show hw sc (d + 3) 53 46 (jm_st1 [(0, (2, 182))] 1 (0, z2)) [(0, z13)] ψ13 y13 Q
      exact hw_ret (a0 := 0) (e := 1) (by decide +kernel) (Or.inr ⟨rfl, H.1⟩) H.2
  · have H := hf3 q
    refine hw_k (c := 0) (b := 0) (e := 1) (by decide +kernel) ?_
    exact hw_ret (a0 := 0) (e := 1) (by decide +kernel) (Or.inr ⟨rfl, by decide⟩) H
theorem sf_53_182 {sc : List Int} {d : Nat} {φ : hf_F} {x : Nat} {Q : Option jm_V → hf_F → Nat → Prop}  (hI : Inv φ)  (hQ : ∀ (r : Int) (ψ : hf_F), Inv ψ → Fr [47, 48, 2004, 2005, 2006, 2007, 2008, 2009, 2010] φ ψ → 0 ≤ r ∧ r ≤ 1 → F_RideText_readSays_182 φ = (r, ψ) → Q (some (0, r)) ψ x) : hw sc (d + 3) 53 0 [(0, (2, 182))] [] φ x Q := by
  apply sf_53_182_v
  have e0 : F_RideText_readSays_182 φ = _ := rfl
  refine sf_29_1 (φ := φ) hI  (fun ψ1 hI1 hF1 hE1 => ⟨rfl, rfl, ?_⟩)
  have hG1 : Fr [47, 48, 2004, 2005, 2006, 2007, 2008, 2009, 2010] φ ψ1 := fr_tr (fr_rf) hF1 (by decide)
  have e1 := e0.trans (bnv_e hE1)
  refine sf_47_1_31_k2_3 (φ := ψ1) hI1  (fun z2 ψ2 hI2 hF2 hp2 hE2 => ⟨rfl, z2, rfl, ?_⟩)
  have hG2 : Fr [47, 48, 2004, 2005, 2006, 2007, 2008, 2009, 2010] φ ψ2 := fr_tr hG1 hF2 (by decide)
  have f1 := iv_at (a := 32) (k := 3) (lo := 0) (u := 6) hI1 (by decide +kernel)
  have f2 : ψ1 32 3 = φ 32 3 := (fr_at hF1 32 (by decide) 3)
  have f3 := iv_at (a := 32) (k := 3) (lo := 0) (u := 6) hI (by decide +kernel)
  have e2 := e1.trans (bnd_e hE2)
  refine ⟨by unfold hi; omega, by unfold hi; omega, fun q3 => ?_, fun q3 => ?_⟩
  · skip
    have e3a := e2.trans (if_pos q3)
    refine sf_54_43 (φ := ψ2) hI2 (by omega) (by omega) (fun z4 hp4 hE4 => ⟨rfl, rfl, z4, rfl, ?_⟩)
    have e4 := e3a.trans (bnp_e hE4)
    have f4 := iv_ar (a := 47) (s := 0) (t := 6) (lo := 0) (u := 6) (z := z2) hI2 (by decide +kernel) (by omega) (by omega)
    have f5 : ψ2 47 ((z2).toNat) = ψ1 47 ((z2).toNat) := (fr_at hF2 47 (by decide) ((z2).toNat))
    have f6 := iv_ar (a := 47) (s := 0) (t := 6) (lo := 0) (u := 6) (z := z2) hI1 (by decide +kernel) (by omega) (by omega)
    have f7 : ψ1 47 ((z2).toNat) = φ 47 ((z2).toNat) := (fr_at hF1 47 (by decide) ((z2).toNat))
    have f8 := iv_ar (a := 47) (s := 0) (t := 6) (lo := 0) (u := 6) (z := z2) hI (by decide +kernel) (by omega) (by omega)
    refine ⟨by unfold hi; omega, fun q5 => ?_, fun q5 => ?_⟩
    · skip
      have e5a := e4.trans (if_pos q5)
      refine sf_29_1 (φ := ψ2) hI2  (fun ψ6 hI6 hF6 hE6 => ⟨rfl, rfl, ?_⟩)
      have hG6 : Fr [47, 48, 2004, 2005, 2006, 2007, 2008, 2009, 2010] φ ψ6 := fr_tr hG2 hF6 (by decide)
      have e6 := e5a.trans (bnv_e hE6)
      refine sf_47_1_31_k2_2 (φ := ψ6) hI6  (fun z7 ψ7 hI7 hF7 hp7 hE7 => ⟨rfl, z7, rfl, ?_⟩)
      have hG7 : Fr [47, 48, 2004, 2005, 2006, 2007, 2008, 2009, 2010] φ ψ7 := fr_tr hG6 hF7 (by decide)
      have f9 := iv_at (a := 32) (k := 2) (lo := 0) (u := 8) hI6 (by decide +kernel)
      have f10 : ψ6 32 2 = ψ2 32 2 := (fr_at hF6 32 (by decide) 2)
      have f11 := iv_at (a := 32) (k := 2) (lo := 0) (u := 8) hI2 (by decide +kernel)
      have f12 : ψ2 32 2 = ψ1 32 2 := (fr_at hF2 32 (by decide) 2)
      have f13 := iv_at (a := 32) (k := 2) (lo := 0) (u := 8) hI1 (by decide +kernel)
      have f14 : ψ1 32 2 = φ 32 2 := (fr_at hF1 32 (by decide) 2)
      have f15 := iv_at (a := 32) (k := 2) (lo := 0) (u := 8) hI (by decide +kernel)
      have e7 := e6.trans (bnd_e hE7)
      refine ⟨by unfold hi; omega, by unfold hi; omega, fun q8 => ?_, fun q8 => ?_⟩
      · skip
        have e8a := e7.trans (if_pos q8)
        refine sf_29_1 (φ := ψ7) hI7  (fun ψ9 hI9 hF9 hE9 => ⟨rfl, rfl, ?_⟩)
        have hG9 : Fr [47, 48, 2004, 2005, 2006, 2007, 2008, 2009, 2010] φ ψ9 := fr_tr hG7 hF9 (by decide)
        have e9 := e8a.trans (bnv_e hE9)
        have f16 := iv_ar (a := 47) (s := 0) (t := 6) (lo := 0) (u := 6) (z := z2) hI9 (by decide +kernel) (by omega) (by omega)
        have f17 : ψ9 47 ((z2).toNat) = ψ7 47 ((z2).toNat) := (fr_at hF9 47 (by decide) ((z2).toNat))
        have f18 := iv_ar (a := 47) (s := 0) (t := 6) (lo := 0) (u := 6) (z := z2) hI7 (by decide +kernel) (by omega) (by omega)
        have f19 : ψ7 47 ((z2).toNat) = ψ6 47 ((z2).toNat) := (fr_at hF7 47 (by decide) ((z2).toNat))
        have f20 := iv_ar (a := 47) (s := 0) (t := 6) (lo := 0) (u := 6) (z := z2) hI6 (by decide +kernel) (by omega) (by omega)
        have f21 : ψ6 47 ((z2).toNat) = ψ2 47 ((z2).toNat) := (fr_at hF6 47 (by decide) ((z2).toNat))
        refine sf_55_43 (φ := ψ9) hI9 (by omega) (by omega) (by omega) (by omega) (by rw [show ψ9 47 ((z2).toNat) = ψ9 47 ((z2).toNat) from rfl]; constructor <;> omega) (fun ψ10 hI10 hF10 hE10 => ⟨rfl, rfl, ?_⟩)
        have hG10 : Fr [47, 48, 2004, 2005, 2006, 2007, 2008, 2009, 2010] φ ψ10 := fr_tr hG9 hF10 (by decide)
        have e10 := e9.trans (bnv_e hE10)
        exact hQ 1 ψ10 hI10 hG10 ⟨by omega, by omega⟩ e10
      · skip
        have e8b := e7.trans (if_neg q8)
        exact hQ 0 ψ7 hI7 hG7 ⟨by omega, by omega⟩ e8b
    · skip
      have e5b := e4.trans (if_neg q5)
      refine sf_37_1 (φ := ψ2) hI2 (by omega) (by omega) (fun z13 ψ13 hI13 hF13 hp13 hE13 => ⟨rfl, z13, rfl, ?_⟩)
      have hG13 : Fr [47, 48, 2004, 2005, 2006, 2007, 2008, 2009, 2010] φ ψ13 := fr_tr hG2 hF13 (by decide)
      have e13 := e5b.trans (bnd_e hE13)
      refine ⟨by omega, ?_⟩
      exact hQ z13 ψ13 hI13 hG13 ⟨by omega, by omega⟩ e13
  · skip
    have e3b := e2.trans (if_neg q3)
    exact hQ 0 ψ2 hI2 hG2 ⟨by omega, by omega⟩ e3b
theorem sf_40_31_k1_4_v {sc : List Int} {d : Nat} {φ : hf_F} {x : Nat} {Q : Option jm_V → hf_F → Nat → Prop} 
    (H : hi (φ 32 4) ∧ hi 8 ∧ ((φ 32 4) < 8 → Q (some (0, 0)) φ x) ∧ (¬ (φ 32 4) < 8 → Q (some (0, 1)) φ x)) :
    hw sc d 40 0 [(0, (2, 31)), (1, (0, 4))] [] φ x Q := by
  refine hw_ald (b := 0) (e := 0) (by decide +kernel) rfl (by decide) ?_
  refine hr_gr (w := 32) (b := 3) (e := 0) 31 rfl (by decide +kernel) ?_
  refine hw_ld (b := 1) (e := 0) (by decide +kernel) rfl ?_
  refine hr_al (b := 0) (a0 := 0) (e := 0) (n := 5) (w := φ 32 4) 32 rfl (by decide +kernel) (by decide) (by decide) (by decide) rfl ?_
  refine hw_gm (a0 := 0) (e := 0) (by decide +kernel) ?_
  refine hw_ld (b := 1) (e := 0) (by decide +kernel) rfl ?_
  refine hw_mo (n := 4) (w := 8) (a0 := 0) (e := 0) (by decide +kernel) (by decide +kernel) (by decide +kernel) ?_
  obtain ⟨hz1, hy1, ht1, hf1⟩ := H
  refine hw_if2 (a0 := 0) (b := 2) (e := 18) (by decide +kernel) hz1 hy1 (fun q => ?_) (fun q => ?_)
  · have H := ht1 q
    refine hw_k (c := 0) (b := 0) (e := 1) (by decide +kernel) ?_
    exact hw_ret (a0 := 0) (e := 1) (by decide +kernel) (Or.inr ⟨rfl, by decide⟩) H
  · have H := hf1 q
    refine hw_k (c := 1) (b := 0) (e := 1) (by decide +kernel) ?_
    refine hw_goto (a0 := 0) (b := 0) (e := 19) (by decide +kernel) ?_
    exact hw_ret (a0 := 0) (e := 1) (by decide +kernel) (Or.inr ⟨rfl, by decide⟩) H
theorem sf_40_31_k1_4 {sc : List Int} {d : Nat} {φ : hf_F} {x : Nat} {Q : Option jm_V → hf_F → Nat → Prop}  (hI : Inv φ)  (hQ : ∀ (r : Int), 0 ≤ r ∧ r ≤ 1 ∧ (r = 0 → φ 32 4 ≤ 7) → F_Plan_isFull_31_k1_4 φ = r → Q (some (0, r)) φ x) : hw sc d 40 0 [(0, (2, 31)), (1, (0, 4))] [] φ x Q := by
  apply sf_40_31_k1_4_v
  have e0 : F_Plan_isFull_31_k1_4 φ = _ := rfl
  have f1 := iv_at (a := 32) (k := 4) (lo := 0) (u := 8) hI (by decide +kernel)
  refine ⟨by unfold hi; omega, by unfold hi; omega, fun q1 => ?_, fun q1 => ?_⟩
  · skip
    have e1a := e0.trans (if_pos q1)
    exact hQ 0 ⟨by omega, by omega, by omega⟩ e1a
  · skip
    have e1b := e0.trans (if_neg q1)
    exact hQ 1 ⟨by omega, by omega, by omega⟩ e1b
theorem sf_39_182_k1_4_v {sc : List Int} {d : Nat} {φ : hf_F} {x : Nat} {Q : Option jm_V → hf_F → Nat → Prop} 
    (H : hw sc (d + 2) 40 0 [(0, (2, 31)), (1, (0, 4))] [] φ x (fun r ψ1 y1 => y1 = x ∧ φ = ψ1 ∧ (∃ z1 : Int, r = some (0, z1) ∧ (hi z1 ∧ (z1 = 0 → hw sc (d + 2) 29 0 [(0, (2, 1))] [] φ x (fun r ψ3 y3 => y3 = x ∧ (r = none ∧ (hi (ψ3 1 5) ∧ hi 2 ∧ ((ψ3 1 5) = 2 → hw sc (d + 2) 41 0 [(0, (2, 31)), (1, (1, ψ3 1 8))] [] ψ3 x (fun r ψ5 y5 => y5 = x ∧ ψ3 = ψ5 ∧ (∃ z5 : Int, r = some (0, z5) ∧ (hi z5 ∧ (z5 = 0 → hw sc (d + 2) 29 0 [(0, (2, 1))] [] ψ3 x (fun r ψ7 y7 => y7 = x ∧ (r = none ∧ (Q (some (1, ψ3 1 8)) ψ7 x)))) ∧ (¬ z5 = 0 → hw sc (d + 2) 37 0 [(0, (2, 1)), (1, (0, 3))] [] ψ3 x (fun r ψ9 y9 => y9 = x ∧ (∃ z9 : Int, r = some (0, z9) ∧ (Q (some (1, 0)) ψ9 x)))))))) ∧ (¬ (ψ3 1 5) = 2 → hw sc (d + 2) 37 0 [(0, (2, 1)), (1, (0, 1))] [] ψ3 x (fun r ψ11 y11 => y11 = x ∧ (∃ z11 : Int, r = some (0, z11) ∧ (Q (some (1, 0)) ψ11 x)))))))) ∧ (¬ z1 = 0 → hw sc (d + 2) 37 0 [(0, (2, 1)), (1, (0, 4))] [] φ x (fun r ψ13 y13 => y13 = x ∧ (∃ z13 : Int, r = some (0, z13) ∧ (Q (some (1, 0)) ψ13 x)))))))) :
    hw sc (d + 3) 39 0 [(0, (2, 182)), (1, (0, 4))] [] φ x Q := by
  refine hw_ald (b := 0) (e := 0) (by decide +kernel) rfl (by decide) ?_
  refine hr_gr (w := 31) (b := 7) (e := 1) 182 rfl (by decide +kernel) ?_
  refine hw_ld (b := 1) (e := 0) (by decide +kernel) rfl ?_
  refine hr_call (a0 := 13) (b := 40) (e := 2) (nl := 2) (As := [(0, 4)]) (R := []) 31 rfl (by decide +kernel) rfl rfl (Nat.le_of_ble_eq_true rfl) (Nat.le_of_ble_eq_true rfl) ?_
  refine hw_mono H ?_
  rintro r ψ1 y1 ⟨hyx, hψx, z1, hr, H⟩
  subst hyx
  subst hψx
  subst hr
  refine ⟨hne0, ?_⟩
  show hw sc (d + 3) 39 8 [(0, (2, 182)), (1, (0, 4))] [(0, z1)] φ y1 Q
  obtain ⟨hz2, ht2, hf2⟩ := H
  refine hw_if (a0 := 0) (b := 0) (e := 22) (by decide +kernel) hz2 (fun q => ?_) (fun q => ?_)
  · have H := ht2 q
    refine hw_ald (b := 0) (e := 0) (by decide +kernel) rfl (by decide) ?_
    refine hr_gr (w := 1) (b := 7) (e := 0) 182 rfl (by decide +kernel) ?_
    refine hr_call (a0 := 11) (b := 29) (e := 1) (nl := 1) (As := []) (R := []) 1 rfl (by decide +kernel) rfl rfl (Nat.le_of_ble_eq_true rfl) (Nat.le_of_ble_eq_true rfl) ?_
    refine hw_mono H ?_
    rintro r ψ3 y3 ⟨hyx, hr, H⟩
    subst hyx
    subst hr
    refine ⟨hnen, ?_⟩
    show hw sc (d + 3) 39 29 [(0, (2, 182)), (1, (0, 4))] [] ψ3 y3 Q
    refine hw_ald (b := 0) (e := 0) (by decide +kernel) rfl (by decide) ?_
    refine hr_gr (w := 1) (b := 7) (e := 0) 182 rfl (by decide +kernel) ?_
    refine hr_gi (w := ψ3 1 5) (b := 1) (e := 5) 1 rfl (by decide +kernel) rfl ?_
    refine hw_k (c := 2) (b := 0) (e := 1) (by decide +kernel) ?_
    obtain ⟨hz4, hy4, ht4, hf4⟩ := H
    refine hw_if2 (a0 := 0) (b := 0) (e := 51) (by decide +kernel) hz4 hy4 (fun q => ?_) (fun q => ?_)
    · have H := ht4 q
      refine hw_ald (b := 0) (e := 0) (by decide +kernel) rfl (by decide) ?_
      refine hr_gr (w := 31) (b := 7) (e := 1) 182 rfl (by decide +kernel) ?_
      refine hw_ald (b := 0) (e := 0) (by decide +kernel) rfl (by decide) ?_
      refine hr_gr (w := 1) (b := 7) (e := 0) 182 rfl (by decide +kernel) ?_
      refine hr_gl (w := ψ3 1 8) (b := 1) (e := 8) 1 rfl (by decide +kernel) rfl ?_
      refine hr_call (a0 := 13) (b := 41) (e := 2) (nl := 4) (As := [(1, ψ3 1 8)]) (R := []) 31 rfl (by decide +kernel) rfl rfl (Nat.le_of_ble_eq_true rfl) (Nat.le_of_ble_eq_true rfl) ?_
      refine hw_mono H ?_
      rintro r ψ5 y5 ⟨hyx, hψx, z5, hr, H⟩
      subst hyx
      subst hψx
      subst hr
      refine ⟨hne0, ?_⟩
      show hw sc (d + 3) 39 65 [(0, (2, 182)), (1, (0, 4))] [(0, z5)] ψ3 y5 Q
      obtain ⟨hz6, ht6, hf6⟩ := H
      refine hw_if (a0 := 0) (b := 0) (e := 79) (by decide +kernel) hz6 (fun q => ?_) (fun q => ?_)
      · have H := ht6 q
        refine hw_ald (b := 0) (e := 0) (by decide +kernel) rfl (by decide) ?_
        refine hr_gr (w := 1) (b := 7) (e := 0) 182 rfl (by decide +kernel) ?_
        refine hr_gl (w := ψ3 1 8) (b := 1) (e := 8) 1 rfl (by decide +kernel) rfl ?_
        refine hw_lst (L' := (jm_st2 [(0, (2, 182)), (1, (0, 4))] 2 (1, ψ3 1 8))) (b := 2) (e := 0) (by decide +kernel) rfl ?_
        refine hw_ald (b := 0) (e := 0) (by decide +kernel) (get_st2 rfl (by decide) (by decide) (fun q => absurd q.1 (by decide))) (by decide) ?_
        refine hr_gr (w := 1) (b := 7) (e := 0) 182 rfl (by decide +kernel) ?_
        refine hr_call (a0 := 11) (b := 29) (e := 1) (nl := 1) (As := []) (R := []) 1 rfl (by decide +kernel) rfl rfl (Nat.le_of_ble_eq_true rfl) (Nat.le_of_ble_eq_true rfl) ?_
        refine hw_mono H ?_
        rintro r ψ7 y7 ⟨hyx, hr, H⟩
        subst hyx
        subst hr
        refine ⟨hnen, ?_⟩
        show hw sc (d + 3) 39 94 (jm_st2 [(0, (2, 182)), (1, (0, 4))] 2 (1, ψ3 1 8)) [] ψ7 y7 Q
        refine hw_lld (b := 2) (e := 0) (by decide +kernel) get_st2e ?_
        exact hw_lret (a0 := 0) (e := 4) (by decide +kernel) H
      · have H := hf6 q
        refine hw_ald (b := 0) (e := 0) (by decide +kernel) rfl (by decide) ?_
        refine hr_gr (w := 1) (b := 7) (e := 0) 182 rfl (by decide +kernel) ?_
        refine hw_k (c := 3) (b := 0) (e := 1) (by decide +kernel) ?_
        refine hr_call (a0 := 11) (b := 37) (e := 2) (nl := 2) (As := [(0, 3)]) (R := []) 1 rfl (by decide +kernel) rfl rfl (Nat.le_of_ble_eq_true rfl) (Nat.le_of_ble_eq_true rfl) ?_
        refine hw_mono H ?_
        rintro r ψ9 y9 ⟨hyx, z9, hr, H⟩
        subst hyx
        subst hr
        refine ⟨hne0, ?_⟩
        show hw sc (d + 3) 39 76 [(0, (2, 182)), (1, (0, 4))] [(0, z9)] ψ9 y9 Q
        refine hw_pop (a0 := 0) (e := 0) (by decide +kernel) (by decide) ?_
        refine hw_lk (c := 0) (b := 0) (e := 1) (by decide +kernel) ?_
        exact hw_lret (a0 := 0) (e := 4) (by decide +kernel) H
    · have H := hf4 q
      refine hw_ald (b := 0) (e := 0) (by decide +kernel) rfl (by decide) ?_
      refine hr_gr (w := 1) (b := 7) (e := 0) 182 rfl (by decide +kernel) ?_
      refine hw_k (c := 1) (b := 0) (e := 1) (by decide +kernel) ?_
      refine hr_call (a0 := 11) (b := 37) (e := 2) (nl := 2) (As := [(0, 1)]) (R := []) 1 rfl (by decide +kernel) rfl rfl (Nat.le_of_ble_eq_true rfl) (Nat.le_of_ble_eq_true rfl) ?_
      refine hw_mono H ?_
      rintro r ψ11 y11 ⟨hyx, z11, hr, H⟩
      subst hyx
      subst hr
      refine ⟨hne0, ?_⟩
      show hw sc (d + 3) 39 48 [(0, (2, 182)), (1, (0, 4))] [(0, z11)] ψ11 y11 Q
      refine hw_pop (a0 := 0) (e := 0) (by decide +kernel) (by decide) ?_
      refine hw_lk (c := 0) (b := 0) (e := 1) (by decide +kernel) ?_
      exact hw_lret (a0 := 0) (e := 4) (by decide +kernel) H
  · have H := hf2 q
    refine hw_ald (b := 0) (e := 0) (by decide +kernel) rfl (by decide) ?_
    refine hr_gr (w := 1) (b := 7) (e := 0) 182 rfl (by decide +kernel) ?_
    refine hw_k (c := 4) (b := 0) (e := 1) (by decide +kernel) ?_
    refine hr_call (a0 := 11) (b := 37) (e := 2) (nl := 2) (As := [(0, 4)]) (R := []) 1 rfl (by decide +kernel) rfl rfl (Nat.le_of_ble_eq_true rfl) (Nat.le_of_ble_eq_true rfl) ?_
    refine hw_mono H ?_
    rintro r ψ13 y13 ⟨hyx, z13, hr, H⟩
    subst hyx
    subst hr
    refine ⟨hne0, ?_⟩
    show hw sc (d + 3) 39 19 [(0, (2, 182)), (1, (0, 4))] [(0, z13)] ψ13 y13 Q
    refine hw_pop (a0 := 0) (e := 0) (by decide +kernel) (by decide) ?_
    refine hw_lk (c := 0) (b := 0) (e := 1) (by decide +kernel) ?_
    exact hw_lret (a0 := 0) (e := 4) (by decide +kernel) H
theorem sf_39_182_k1_4 {sc : List Int} {d : Nat} {φ : hf_F} {x : Nat} {Q : Option jm_V → hf_F → Nat → Prop}  (hI : Inv φ)  (hQ : ∀ (r : Int) (ψ : hf_F), Inv ψ → Fr [2004, 2005, 2006, 2007, 2008, 2009, 2010] φ ψ → True ∧ (¬ r = 0 → φ 32 4 ≤ 7) → F_RideText_readNew_182_k1_4 φ = (r, ψ) → Q (some (1, r)) ψ x) : hw sc (d + 3) 39 0 [(0, (2, 182)), (1, (0, 4))] [] φ x Q := by
  apply sf_39_182_k1_4_v
  have e0 : F_RideText_readNew_182_k1_4 φ = _ := rfl
  refine sf_40_31_k1_4 (φ := φ) hI  (fun z1 hp1 hE1 => ⟨rfl, rfl, z1, rfl, ?_⟩)
  have e1 := e0.trans (bnp_e hE1)
  have f1 := iv_at (a := 32) (k := 4) (lo := 0) (u := 8) hI (by decide +kernel)
  refine ⟨by unfold hi; omega, fun q2 => ?_, fun q2 => ?_⟩
  · skip
    have e2a := e1.trans (if_pos q2)
    refine sf_29_1 (φ := φ) hI  (fun ψ3 hI3 hF3 hE3 => ⟨rfl, rfl, ?_⟩)
    have hG3 : Fr [2004, 2005, 2006, 2007, 2008, 2009, 2010] φ ψ3 := fr_tr (fr_rf) hF3 (by decide)
    have e3 := e2a.trans (bnv_e hE3)
    have f2 := iv_at (a := 1) (k := 5) (lo := 0) (u := 5) hI3 (by decide +kernel)
    refine ⟨by unfold hi; omega, by unfold hi; omega, fun q4 => ?_, fun q4 => ?_⟩
    · skip
      have e4a := e3.trans (if_pos q4)
      refine sf_41_31 (φ := ψ3) hI3  (fun z5 hp5 hE5 => ⟨rfl, rfl, z5, rfl, ?_⟩)
      have e5 := e4a.trans (bnp_e hE5)
      refine ⟨by unfold hi; omega, fun q6 => ?_, fun q6 => ?_⟩
      · skip
        have e6a := e5.trans (if_pos q6)
        refine sf_29_1 (φ := ψ3) hI3  (fun ψ7 hI7 hF7 hE7 => ⟨rfl, rfl, ?_⟩)
        have hG7 : Fr [2004, 2005, 2006, 2007, 2008, 2009, 2010] φ ψ7 := fr_tr hG3 hF7 (by decide)
        have e7 := e6a.trans (bnv_e hE7)
        exact hQ (ψ3 1 8) ψ7 hI7 hG7 ⟨trivial, by omega⟩ e7
      · skip
        have e6b := e5.trans (if_neg q6)
        refine sf_37_1 (φ := ψ3) hI3 (by omega) (by omega) (fun z9 ψ9 hI9 hF9 hp9 hE9 => ⟨rfl, z9, rfl, ?_⟩)
        have hG9 : Fr [2004, 2005, 2006, 2007, 2008, 2009, 2010] φ ψ9 := fr_tr hG3 hF9 (by decide)
        have e9 := e6b.trans (bnd_e hE9)
        exact hQ (0) ψ9 hI9 hG9 ⟨trivial, by omega⟩ e9
    · skip
      have e4b := e3.trans (if_neg q4)
      refine sf_37_1 (φ := ψ3) hI3 (by omega) (by omega) (fun z11 ψ11 hI11 hF11 hp11 hE11 => ⟨rfl, z11, rfl, ?_⟩)
      have hG11 : Fr [2004, 2005, 2006, 2007, 2008, 2009, 2010] φ ψ11 := fr_tr hG3 hF11 (by decide)
      have e11 := e4b.trans (bnd_e hE11)
      exact hQ (0) ψ11 hI11 hG11 ⟨trivial, by omega⟩ e11
  · skip
    have e2b := e1.trans (if_neg q2)
    refine sf_37_1 (φ := φ) hI (by omega) (by omega) (fun z13 ψ13 hI13 hF13 hp13 hE13 => ⟨rfl, z13, rfl, ?_⟩)
    have hG13 : Fr [2004, 2005, 2006, 2007, 2008, 2009, 2010] φ ψ13 := fr_tr (fr_rf) hF13 (by decide)
    have e13 := e2b.trans (bnd_e hE13)
    exact hQ (0) ψ13 hI13 hG13 ⟨trivial, by omega⟩ e13
theorem sf_56_182_v {sc : List Int} {d : Nat} {φ : hf_F} {x : Nat} {Q : Option jm_V → hf_F → Nat → Prop} 
    (H : hw sc (d + 3) 39 0 [(0, (2, 182)), (1, (0, 4))] [] φ x (fun r ψ1 y1 => y1 = x ∧ (∃ z1 : Int, r = some (1, z1) ∧ (hi (jm_cmp z1 0) ∧ (¬ (jm_cmp z1 0) = 0 → hw sc (d + 3) 47 0 [(0, (2, 1)), (1, (2, 31)), (2, (0, 2))] [] ψ1 x (fun r ψ3 y3 => y3 = x ∧ (∃ z3 : Int, r = some (0, z3) ∧ (hi z3 ∧ hi (-1 : Int) ∧ (¬ z3 = (-1 : Int) → hw sc (d + 3) 29 0 [(0, (2, 1))] [] ψ3 x (fun r ψ5 y5 => y5 = x ∧ (r = none ∧ (hw sc (d + 3) 47 0 [(0, (2, 1)), (1, (2, 31)), (2, (0, 2))] [] ψ5 x (fun r ψ6 y6 => y6 = x ∧ (∃ z6 : Int, r = some (0, z6) ∧ (hi z6 ∧ hi (-1 : Int) ∧ (¬ z6 = (-1 : Int) → 0 ≤ ((z3 * 8) + z6) ∧ ((z3 * 8) + z6) < 64 ∧ (hi (ψ6 42 (((z3 * 8) + z6).toNat)) ∧ hi (-1 : Int) ∧ ((ψ6 42 (((z3 * 8) + z6).toNat)) = (-1 : Int) → hw sc (d + 3) 29 0 [(0, (2, 1))] [] ψ6 x (fun r ψ10 y10 => y10 = x ∧ (r = none ∧ (hw sc (d + 3) 57 0 [(0, (2, 31)), (1, (1, z1)), (3, (0, z3)), (4, (0, z6))] [] ψ10 x (fun r ψ11 y11 => y11 = x ∧ (r = none ∧ (Q (some (0, 1)) ψ11 x))))))) ∧ (¬ (ψ6 42 (((z3 * 8) + z6).toNat)) = (-1 : Int) → hw sc (d + 3) 37 0 [(0, (2, 1)), (1, (0, 3))] [] ψ6 x (fun r ψ13 y13 => y13 = x ∧ (∃ z13 : Int, r = some (0, z13) ∧ ((z13 = 0 ∨ z13 = 1) ∧ Q (some (0, z13)) ψ13 x)))))) ∧ (¬ (¬ z6 = (-1 : Int)) → Q (some (0, 0)) ψ6 x)))))))) ∧ (¬ (¬ z3 = (-1 : Int)) → Q (some (0, 0)) ψ3 x))))) ∧ (¬ (¬ (jm_cmp z1 0) = 0) → Q (some (0, 0)) ψ1 x))))) :
    hw sc (d + 4) 56 0 [(0, (2, 182))] [] φ x Q := by
  refine hw_ald (b := 0) (e := 0) (by decide +kernel) rfl (by decide) ?_
  refine hw_k (c := 4) (b := 0) (e := 1) (by decide +kernel) ?_
  refine hr_call (a0 := 17) (b := 39) (e := 2) (nl := 4) (As := [(0, 4)]) (R := []) 182 rfl (by decide +kernel) rfl rfl (Nat.le_of_ble_eq_true rfl) (Nat.le_of_ble_eq_true rfl) ?_
  refine hw_mono H ?_
  rintro r ψ1 y1 ⟨hyx, z1, hr, H⟩
  subst hyx
  subst hr
  refine ⟨hne1, ?_⟩
  show hw sc (d + 4) 56 5 [(0, (2, 182))] [(1, z1)] ψ1 y1 Q
  refine hw_lst (L' := (jm_st2 [(0, (2, 182))] 1 (1, z1))) (b := 1) (e := 0) (by decide +kernel) rfl ?_
  refine hw_lld (b := 1) (e := 0) (by decide +kernel) get_st2e ?_
  refine hw_lk (c := 0) (b := 0) (e := 1) (by decide +kernel) ?_
  refine hw_lcmp (w := jm_cmp z1 0) (a0 := 0) (b := 0) (e := 0) (by decide +kernel) rfl ?_
  obtain ⟨hz2, ht2, hf2⟩ := H
  refine hw_if (a0 := 0) (b := 1) (e := 14) (by decide +kernel) hz2 (fun q => ?_) (fun q => ?_)
  · have H := ht2 q
    refine hw_ald (b := 0) (e := 0) (by decide +kernel) (get_st2 rfl (by decide) (by decide) (fun q => tg2 q.2)) (by decide) ?_
    refine hr_gr (w := 1) (b := 7) (e := 0) 182 rfl (by decide +kernel) ?_
    refine hw_ald (b := 0) (e := 0) (by decide +kernel) (get_st2 rfl (by decide) (by decide) (fun q => tg2 q.2)) (by decide) ?_
    refine hr_gr (w := 31) (b := 7) (e := 1) 182 rfl (by decide +kernel) ?_
    refine hw_k (c := 2) (b := 0) (e := 1) (by decide +kernel) ?_
    refine hr_call (a0 := 11) (b := 47) (e := 3) (nl := 4) (As := [(2, 31), (0, 2)]) (R := []) 1 rfl (by decide +kernel) rfl rfl (Nat.le_of_ble_eq_true rfl) (Nat.le_of_ble_eq_true rfl) ?_
    refine hw_mono H ?_
    rintro r ψ3 y3 ⟨hyx, z3, hr, H⟩
    subst hyx
    subst hr
    refine ⟨hne0, ?_⟩
    show hw sc (d + 4) 56 26 (jm_st2 [(0, (2, 182))] 1 (1, z1)) [(0, z3)] ψ3 y3 Q
    refine hw_st (L' := (jm_st1 (jm_st2 [(0, (2, 182))] 1 (1, z1)) 3 (0, z3))) (b := 3) (e := 0) (by decide +kernel) rfl ?_
    refine hw_ld (b := 3) (e := 0) (by decide +kernel) get_st1e ?_
    refine hw_k (c := (-1 : Int)) (b := 0) (e := 1) (by decide +kernel) ?_
    obtain ⟨hz4, hy4, ht4, hf4⟩ := H
    refine hw_if2 (a0 := 0) (b := 1) (e := 34) (by decide +kernel) hz4 hy4 (fun q => ?_) (fun q => ?_)
    · have H := ht4 q
      refine hw_ald (b := 0) (e := 0) (by decide +kernel) (get_st1 (get_st2 rfl (by decide) (by decide) (fun q => tg2 q.2)) (by decide) (fun q => absurd q.1 (by decide))) (by decide) ?_
      refine hr_gr (w := 1) (b := 7) (e := 0) 182 rfl (by decide +kernel) ?_
      refine hr_call (a0 := 11) (b := 29) (e := 1) (nl := 1) (As := []) (R := []) 1 rfl (by decide +kernel) rfl rfl (Nat.le_of_ble_eq_true rfl) (Nat.le_of_ble_eq_true rfl) ?_
      refine hw_mono H ?_
      rintro r ψ5 y5 ⟨hyx, hr, H⟩
      subst hyx
      subst hr
      refine ⟨hnen, ?_⟩
      show hw sc (d + 4) 56 41 (jm_st1 (jm_st2 [(0, (2, 182))] 1 (1, z1)) 3 (0, z3)) [] ψ5 y5 Q
      refine hw_ald (b := 0) (e := 0) (by decide +kernel) (get_st1 (get_st2 rfl (by decide) (by decide) (fun q => tg2 q.2)) (by decide) (fun q => absurd q.1 (by decide))) (by decide) ?_
      refine hr_gr (w := 1) (b := 7) (e := 0) 182 rfl (by decide +kernel) ?_
      refine hw_ald (b := 0) (e := 0) (by decide +kernel) (get_st1 (get_st2 rfl (by decide) (by decide) (fun q => tg2 q.2)) (by decide) (fun q => absurd q.1 (by decide))) (by decide) ?_
      refine hr_gr (w := 31) (b := 7) (e := 1) 182 rfl (by decide +kernel) ?_
      refine hw_k (c := 2) (b := 0) (e := 1) (by decide +kernel) ?_
      refine hr_call (a0 := 11) (b := 47) (e := 3) (nl := 4) (As := [(2, 31), (0, 2)]) (R := []) 1 rfl (by decide +kernel) rfl rfl (Nat.le_of_ble_eq_true rfl) (Nat.le_of_ble_eq_true rfl) ?_
      refine hw_mono H ?_
      rintro r ψ6 y6 ⟨hyx, z6, hr, H⟩
      subst hyx
      subst hr
      refine ⟨hne0, ?_⟩
      show hw sc (d + 4) 56 53 (jm_st1 (jm_st2 [(0, (2, 182))] 1 (1, z1)) 3 (0, z3)) [(0, z6)] ψ6 y6 Q
      refine hw_st (L' := (jm_st1 (jm_st1 (jm_st2 [(0, (2, 182))] 1 (1, z1)) 3 (0, z3)) 4 (0, z6))) (b := 4) (e := 1) (by decide +kernel) rfl ?_
      refine hw_ld (b := 4) (e := 1) (by decide +kernel) get_st1e ?_
      refine hw_k (c := (-1 : Int)) (b := 0) (e := 1) (by decide +kernel) ?_
      obtain ⟨hz7, hy7, ht7, hf7⟩ := H
      refine hw_if2 (a0 := 0) (b := 1) (e := 63) (by decide +kernel) hz7 hy7 (fun q => ?_) (fun q => ?_)
      · have H := ht7 q
        refine hw_ald (b := 0) (e := 0) (by decide +kernel) (get_st1 (get_st1 (get_st2 rfl (by decide) (by decide) (fun q => tg2 q.2)) (by decide) (fun q => absurd q.1 (by decide))) (by decide) (fun q => absurd q.1 (by decide))) (by decide) ?_
        refine hr_gr (w := 31) (b := 7) (e := 1) 182 rfl (by decide +kernel) ?_
        refine hr_gr (w := 42) (b := 3) (e := 10) 31 rfl (by decide +kernel) ?_
        refine hw_ld (b := 3) (e := 0) (by decide +kernel) (get_st1 get_st1e (by decide) (fun q => tg0 q.2)) ?_
        refine hw_k (c := 8) (b := 1) (e := 2) (by decide +kernel) ?_
        refine hw_bin (w := z3 * 8) (a0 := 0) (b := 2) (e := 0) (by decide +kernel) rfl ?_
        refine hw_ld (b := 4) (e := 1) (by decide +kernel) get_st1e ?_
        refine hw_bin (w := (z3 * 8) + z6) (a0 := 0) (b := 0) (e := 0) (by decide +kernel) rfl ?_
        obtain ⟨hl8, hu8, H⟩ := H
        refine hr_al (b := 0) (a0 := 0) (e := 0) (n := 64) (w := ψ6 42 (((z3 * 8) + z6).toNat)) 42 rfl (by decide +kernel) (by decide) hl8 hu8 rfl ?_
        refine hw_k (c := (-1 : Int)) (b := 0) (e := 1) (by decide +kernel) ?_
        obtain ⟨hz9, hy9, ht9, hf9⟩ := H
        refine hw_if2 (a0 := 0) (b := 0) (e := 91) (by decide +kernel) hz9 hy9 (fun q => ?_) (fun q => ?_)
        · have H := ht9 q
          refine hw_ald (b := 0) (e := 0) (by decide +kernel) (get_st1 (get_st1 (get_st2 rfl (by decide) (by decide) (fun q => tg2 q.2)) (by decide) (fun q => absurd q.1 (by decide))) (by decide) (fun q => absurd q.1 (by decide))) (by decide) ?_
          refine hr_gr (w := 1) (b := 7) (e := 0) 182 rfl (by decide +kernel) ?_
          refine hr_call (a0 := 11) (b := 29) (e := 1) (nl := 1) (As := []) (R := []) 1 rfl (by decide +kernel) rfl rfl (Nat.le_of_ble_eq_true rfl) (Nat.le_of_ble_eq_true rfl) ?_
          refine hw_mono H ?_
          rintro r ψ10 y10 ⟨hyx, hr, H⟩
          subst hyx
          subst hr
          refine ⟨hnen, ?_⟩
          show hw sc (d + 4) 56 98 (jm_st1 (jm_st1 (jm_st2 [(0, (2, 182))] 1 (1, z1)) 3 (0, z3)) 4 (0, z6)) [] ψ10 y10 Q
          refine hw_ald (b := 0) (e := 0) (by decide +kernel) (get_st1 (get_st1 (get_st2 rfl (by decide) (by decide) (fun q => tg2 q.2)) (by decide) (fun q => absurd q.1 (by decide))) (by decide) (fun q => absurd q.1 (by decide))) (by decide) ?_
          refine hr_gr (w := 31) (b := 7) (e := 1) 182 rfl (by decide +kernel) ?_
          refine hw_lld (b := 1) (e := 0) (by decide +kernel) (get_st1 (get_st1 get_st2e (by decide) (fun q => absurd q.1 (by decide))) (by decide) (fun q => absurd q.1 (by decide))) ?_
          refine hw_ld (b := 3) (e := 0) (by decide +kernel) (get_st1 get_st1e (by decide) (fun q => tg0 q.2)) ?_
          refine hw_ld (b := 4) (e := 1) (by decide +kernel) get_st1e ?_
          refine hr_call (a0 := 13) (b := 57) (e := 4) (nl := 6) (As := [(1, z1), (0, z3), (0, z6)]) (R := []) 31 rfl (by decide +kernel) rfl rfl (Nat.le_of_ble_eq_true rfl) (Nat.le_of_ble_eq_true rfl) ?_
          refine hw_mono H ?_
          rintro r ψ11 y11 ⟨hyx, hr, H⟩
          subst hyx
          subst hr
          refine ⟨hnen, ?_⟩
          show hw sc (d + 4) 56 109 (jm_st1 (jm_st1 (jm_st2 [(0, (2, 182))] 1 (1, z1)) 3 (0, z3)) 4 (0, z6)) [] ψ11 y11 Q
          refine hw_k (c := 1) (b := 0) (e := 1) (by decide +kernel) ?_
          exact hw_ret (a0 := 0) (e := 1) (by decide +kernel) (Or.inr ⟨rfl, by decide⟩) H
        · have H := hf9 q
          refine hw_ald (b := 0) (e := 0) (by decide +kernel) (get_st1 (get_st1 (get_st2 rfl (by decide) (by decide) (fun q => tg2 q.2)) (by decide) (fun q => absurd q.1 (by decide))) (by decide) (fun q => absurd q.1 (by decide))) (by decide) ?_
          refine hr_gr (w := 1) (b := 7) (e := 0) 182 rfl (by decide +kernel) ?_
          refine hw_k (c := 3) (b := 0) (e := 1) (by decide +kernel) ?_
          refine hr_call (a0 := 11) (b := 37) (e := 2) (nl := 2) (As := [(0, 3)]) (R := []) 1 rfl (by decide +kernel) rfl rfl (Nat.le_of_ble_eq_true rfl) (Nat.le_of_ble_eq_true rfl) ?_
          refine hw_mono H ?_
          rintro r ψ13 y13 ⟨hyx, z13, hr, H⟩
          subst hyx
          subst hr
          refine ⟨hne0, ?_⟩
          show hw sc (d + 4) 56 90 (jm_st1 (jm_st1 (jm_st2 [(0, (2, 182))] 1 (1, z1)) 3 (0, z3)) 4 (0, z6)) [(0, z13)] ψ13 y13 Q
          exact hw_ret (a0 := 0) (e := 1) (by decide +kernel) (Or.inr ⟨rfl, H.1⟩) H.2
      · have H := hf7 q
        refine hw_k (c := 0) (b := 0) (e := 1) (by decide +kernel) ?_
        exact hw_ret (a0 := 0) (e := 1) (by decide +kernel) (Or.inr ⟨rfl, by decide⟩) H
    · have H := hf4 q
      refine hw_k (c := 0) (b := 0) (e := 1) (by decide +kernel) ?_
      exact hw_ret (a0 := 0) (e := 1) (by decide +kernel) (Or.inr ⟨rfl, by decide⟩) H
  · have H := hf2 q
    refine hw_k (c := 0) (b := 0) (e := 1) (by decide +kernel) ?_
    exact hw_ret (a0 := 0) (e := 1) (by decide +kernel) (Or.inr ⟨rfl, by decide⟩) H
theorem sf_56_182 {sc : List Int} {d : Nat} {φ : hf_F} {x : Nat} {Q : Option jm_V → hf_F → Nat → Prop}  (hI : Inv φ)  (hQ : ∀ (r : Int) (ψ : hf_F), Inv ψ → Fr [32, 33, 39, 40, 42, 2004, 2005, 2006, 2007, 2008, 2009, 2010] φ ψ → 0 ≤ r ∧ r ≤ 1 → F_RideText_readLaw_182 φ = (r, ψ) → Q (some (0, r)) ψ x) : hw sc (d + 4) 56 0 [(0, (2, 182))] [] φ x Q := by
  apply sf_56_182_v
  have e0 : F_RideText_readLaw_182 φ = _ := rfl
  refine sf_39_182_k1_4 (φ := φ) hI  (fun z1 ψ1 hI1 hF1 hp1 hE1 => ⟨rfl, z1, rfl, ?_⟩)
  have hG1 : Fr [32, 33, 39, 40, 42, 2004, 2005, 2006, 2007, 2008, 2009, 2010] φ ψ1 := fr_tr (fr_rf) hF1 (by decide)
  have f1 := iv_at (a := 32) (k := 4) (lo := 0) (u := 8) hI (by decide +kernel)
  have e1 := e0.trans (bnd_e hE1)
  have f2 := hr_cmp z1 0
  have f3 := hr_cmp0 z1
  refine ⟨by unfold hi; omega, fun q2 => ?_, fun q2 => ?_⟩
  · skip
    have e2a := e1.trans (if_pos q2)
    refine sf_47_1_31_k2_2 (φ := ψ1) hI1  (fun z3 ψ3 hI3 hF3 hp3 hE3 => ⟨rfl, z3, rfl, ?_⟩)
    have hG3 : Fr [32, 33, 39, 40, 42, 2004, 2005, 2006, 2007, 2008, 2009, 2010] φ ψ3 := fr_tr hG1 hF3 (by decide)
    have f4 := iv_at (a := 32) (k := 2) (lo := 0) (u := 8) hI1 (by decide +kernel)
    have f5 : ψ1 32 2 = φ 32 2 := (fr_at hF1 32 (by decide) 2)
    have f6 := iv_at (a := 32) (k := 2) (lo := 0) (u := 8) hI (by decide +kernel)
    have e3 := e2a.trans (bnd_e hE3)
    refine ⟨by unfold hi; omega, by unfold hi; omega, fun q4 => ?_, fun q4 => ?_⟩
    · skip
      have e4a := e3.trans (if_pos q4)
      refine sf_29_1 (φ := ψ3) hI3  (fun ψ5 hI5 hF5 hE5 => ⟨rfl, rfl, ?_⟩)
      have hG5 : Fr [32, 33, 39, 40, 42, 2004, 2005, 2006, 2007, 2008, 2009, 2010] φ ψ5 := fr_tr hG3 hF5 (by decide)
      have e5 := e4a.trans (bnv_e hE5)
      refine sf_47_1_31_k2_2 (φ := ψ5) hI5  (fun z6 ψ6 hI6 hF6 hp6 hE6 => ⟨rfl, z6, rfl, ?_⟩)
      have hG6 : Fr [32, 33, 39, 40, 42, 2004, 2005, 2006, 2007, 2008, 2009, 2010] φ ψ6 := fr_tr hG5 hF6 (by decide)
      have f7 := iv_at (a := 32) (k := 2) (lo := 0) (u := 8) hI5 (by decide +kernel)
      have f8 : ψ5 32 2 = ψ3 32 2 := (fr_at hF5 32 (by decide) 2)
      have f9 := iv_at (a := 32) (k := 2) (lo := 0) (u := 8) hI3 (by decide +kernel)
      have f10 : ψ3 32 2 = ψ1 32 2 := (fr_at hF3 32 (by decide) 2)
      have e6 := e5.trans (bnd_e hE6)
      refine ⟨by unfold hi; omega, by unfold hi; omega, fun q7 => ?_, fun q7 => ?_⟩
      · skip
        have e7a := e6.trans (if_pos q7)
        refine ⟨by omega, by omega, ?_⟩
        have f11 := iv_ar (a := 42) (s := 0) (t := 64) (lo := (-1 : Int)) (u := 7) (z := (z3 * 8) + z6) hI6 (by decide +kernel) (by omega) (by omega)
        have f12 : ψ6 42 (((z3 * 8) + z6).toNat) = ψ5 42 (((z3 * 8) + z6).toNat) := (fr_at hF6 42 (by decide) (((z3 * 8) + z6).toNat))
        have f13 := iv_ar (a := 42) (s := 0) (t := 64) (lo := (-1 : Int)) (u := 7) (z := (z3 * 8) + z6) hI5 (by decide +kernel) (by omega) (by omega)
        have f14 : ψ5 42 (((z3 * 8) + z6).toNat) = ψ3 42 (((z3 * 8) + z6).toNat) := (fr_at hF5 42 (by decide) (((z3 * 8) + z6).toNat))
        have f15 := iv_ar (a := 42) (s := 0) (t := 64) (lo := (-1 : Int)) (u := 7) (z := (z3 * 8) + z6) hI3 (by decide +kernel) (by omega) (by omega)
        have f16 : ψ3 42 (((z3 * 8) + z6).toNat) = ψ1 42 (((z3 * 8) + z6).toNat) := (fr_at hF3 42 (by decide) (((z3 * 8) + z6).toNat))
        have f17 := iv_ar (a := 42) (s := 0) (t := 64) (lo := (-1 : Int)) (u := 7) (z := (z3 * 8) + z6) hI1 (by decide +kernel) (by omega) (by omega)
        have f18 : ψ1 42 (((z3 * 8) + z6).toNat) = φ 42 (((z3 * 8) + z6).toNat) := (fr_at hF1 42 (by decide) (((z3 * 8) + z6).toNat))
        have f19 := iv_ar (a := 42) (s := 0) (t := 64) (lo := (-1 : Int)) (u := 7) (z := (z3 * 8) + z6) hI (by decide +kernel) (by omega) (by omega)
        refine ⟨by unfold hi; omega, by unfold hi; omega, fun q9 => ?_, fun q9 => ?_⟩
        · skip
          have e9a := e7a.trans (if_pos q9)
          refine sf_29_1 (φ := ψ6) hI6  (fun ψ10 hI10 hF10 hE10 => ⟨rfl, rfl, ?_⟩)
          have hG10 : Fr [32, 33, 39, 40, 42, 2004, 2005, 2006, 2007, 2008, 2009, 2010] φ ψ10 := fr_tr hG6 hF10 (by decide)
          have e10 := e9a.trans (bnv_e hE10)
          have f20 := iv_at (a := 32) (k := 4) (lo := 0) (u := 8) hI10 (by decide +kernel)
          have f21 : ψ10 32 4 = ψ6 32 4 := (fr_at hF10 32 (by decide) 4)
          have f22 := iv_at (a := 32) (k := 4) (lo := 0) (u := 8) hI6 (by decide +kernel)
          have f23 : ψ6 32 4 = ψ5 32 4 := (fr_at hF6 32 (by decide) 4)
          have f24 := iv_at (a := 32) (k := 4) (lo := 0) (u := 8) hI5 (by decide +kernel)
          have f25 : ψ5 32 4 = ψ3 32 4 := (fr_at hF5 32 (by decide) 4)
          have f26 := iv_at (a := 32) (k := 4) (lo := 0) (u := 8) hI3 (by decide +kernel)
          have f27 : ψ3 32 4 = ψ1 32 4 := (fr_at hF3 32 (by decide) 4)
          have f28 := iv_at (a := 32) (k := 4) (lo := 0) (u := 8) hI1 (by decide +kernel)
          have f29 : ψ1 32 4 = φ 32 4 := (fr_at hF1 32 (by decide) 4)
          refine sf_57_31 (φ := ψ10) hI10 (by omega) (by omega) (by omega) (by omega) (by rw [show ψ10 32 4 = ψ10 32 4 from rfl]; constructor <;> omega) (fun ψ11 hI11 hF11 hE11 => ⟨rfl, rfl, ?_⟩)
          have hG11 : Fr [32, 33, 39, 40, 42, 2004, 2005, 2006, 2007, 2008, 2009, 2010] φ ψ11 := fr_tr hG10 hF11 (by decide)
          have e11 := e10.trans (bnv_e hE11)
          exact hQ 1 ψ11 hI11 hG11 ⟨by omega, by omega⟩ e11
        · skip
          have e9b := e7a.trans (if_neg q9)
          refine sf_37_1 (φ := ψ6) hI6 (by omega) (by omega) (fun z13 ψ13 hI13 hF13 hp13 hE13 => ⟨rfl, z13, rfl, ?_⟩)
          have hG13 : Fr [32, 33, 39, 40, 42, 2004, 2005, 2006, 2007, 2008, 2009, 2010] φ ψ13 := fr_tr hG6 hF13 (by decide)
          have e13 := e9b.trans (bnd_e hE13)
          refine ⟨by omega, ?_⟩
          exact hQ z13 ψ13 hI13 hG13 ⟨by omega, by omega⟩ e13
      · skip
        have e7b := e6.trans (if_neg q7)
        exact hQ 0 ψ6 hI6 hG6 ⟨by omega, by omega⟩ e7b
    · skip
      have e4b := e3.trans (if_neg q4)
      exact hQ 0 ψ3 hI3 hG3 ⟨by omega, by omega⟩ e4b
  · skip
    have e2b := e1.trans (if_neg q2)
    exact hQ 0 ψ1 hI1 hG1 ⟨by omega, by omega⟩ e2b
theorem sf_42_31_k1_4_v3 {sc : List Int} {d : Nat} {φ : hf_F} {x : Nat} {Q : Option jm_V → hf_F → Nat → Prop} {L : jm_L} {l2 l4 : Int} (g0 : jm_get L 0 = some (2, 31)) (g1 : jm_get L 1 = some (0, 4)) (g2 : jm_get L 2 = some (1, l2)) (g4 : jm_get L 4 = some (0, l4))
    (H : hi l4 ∧ hi (φ 32 4) ∧ ((φ 32 4) ≤ l4 → Q (some (0, (-1 : Int))) φ x) ∧ (¬ (φ 32 4) ≤ l4 → 0 ≤ (32 + l4) ∧ (32 + l4) < 40 ∧ (hi (jm_cmp (φ 33 ((32 + l4).toNat)) l2) ∧ (¬ (jm_cmp (φ 33 ((32 + l4).toNat)) l2) = 0 → hw sc d 42 3 (jm_st1 L 4 (0, l4 + 1)) [] φ x Q) ∧ (¬ (¬ (jm_cmp (φ 33 ((32 + l4).toNat)) l2) = 0) → Q (some (0, l4)) φ x)))) :
    hw sc d 42 3 L [] φ x Q := by
  refine hw_ld (b := 4) (e := 1) (by decide +kernel) g4 ?_
  refine hw_ald (b := 0) (e := 0) (by decide +kernel) g0 (by decide) ?_
  refine hr_gr (w := 32) (b := 3) (e := 0) 31 rfl (by decide +kernel) ?_
  refine hw_ld (b := 1) (e := 0) (by decide +kernel) g1 ?_
  refine hr_al (b := 0) (a0 := 0) (e := 0) (n := 5) (w := φ 32 4) 32 rfl (by decide +kernel) (by decide) (by decide) (by decide) rfl ?_
  obtain ⟨hz1, hy1, ht1, hf1⟩ := H
  refine hw_if2 (a0 := 0) (b := 3) (e := 40) (by decide +kernel) hz1 hy1 (fun q => ?_) (fun q => ?_)
  · have H := ht1 q
    refine hw_k (c := (-1 : Int)) (b := 0) (e := 1) (by decide +kernel) ?_
    exact hw_ret (a0 := 0) (e := 0) (by decide +kernel) (Or.inl rfl) H
  · have H := hf1 q
    refine hw_ald (b := 0) (e := 0) (by decide +kernel) g0 (by decide) ?_
    refine hr_gr (w := 33) (b := 3) (e := 1) 31 rfl (by decide +kernel) ?_
    refine hw_ld (b := 1) (e := 0) (by decide +kernel) g1 ?_
    refine hw_k (c := 8) (b := 1) (e := 2) (by decide +kernel) ?_
    refine hw_bin (w := 32) (a0 := 0) (b := 2) (e := 0) (by decide +kernel) rfl ?_
    refine hw_ld (b := 4) (e := 1) (by decide +kernel) g4 ?_
    refine hw_bin (w := 32 + l4) (a0 := 0) (b := 0) (e := 0) (by decide +kernel) rfl ?_
    obtain ⟨hl3, hu3, H⟩ := H
    refine hr_all (a0 := 0) (e := 0) (n := 40) (w := φ 33 ((32 + l4).toNat)) 33 rfl (by decide +kernel) hl3 hu3 rfl ?_
    refine hw_lld (b := 2) (e := 0) (by decide +kernel) g2 ?_
    refine hw_lcmp (w := jm_cmp (φ 33 ((32 + l4).toNat)) l2) (a0 := 0) (b := 0) (e := 0) (by decide +kernel) rfl ?_
    obtain ⟨hz4, ht4, hf4⟩ := H
    refine hw_if (a0 := 0) (b := 1) (e := 34) (by decide +kernel) hz4 (fun q => ?_) (fun q => ?_)
    · have H := ht4 q
      refine hw_inc (L' := (jm_st1 L 4 (0, l4 + 1))) (c := 1) (b := 4) (e := 0) (by decide +kernel) g4 rfl ?_
      refine hw_goto (a0 := 0) (b := 0) (e := 3) (by decide +kernel) ?_
      exact H
    · have H := hf4 q
      refine hw_ld (b := 4) (e := 1) (by decide +kernel) g4 ?_
      exact hw_ret (a0 := 0) (e := 0) (by decide +kernel) (Or.inl rfl) H
theorem sf_42_31_k1_4_l3 {sc : List Int} {d x : Nat} {Q : Option jm_V → hf_F → Nat → Prop} : ∀ (n : Nat) (φ : hf_F) (L : jm_L) (l2 l4 : Int), jm_get L 0 = some (2, 31) → jm_get L 1 = some (0, 4) → jm_get L 2 = some (1, l2) → jm_get L 4 = some (0, l4) → Inv φ → 8 - l4 < (n : Int) → 0 ≤ l4 → l4 ≤ 8 → (∀ (r : Int), (-1 : Int) ≤ r ∧ r ≤ 7 ∧ (r = -1 ∨ (0 ≤ r ∧ r < φ 32 4 ∧ φ 32 4 ≤ 8)) → F_Plan_numberOf_31_k1_4_l3 n φ l2 l4 = r → Q (some (0, r)) φ x) → hw sc d 42 3 L [] φ x Q := by
  intro n
  induction n with
  | zero =>
    intro φ L l2 l4 g0 g1 g2 g4 hI hM b4a b4b hQ
    exfalso
    omega
  | succ n ih =>
    intro φ L l2 l4 g0 g1 g2 g4 hI hM b4a b4b hQ
    refine sf_42_31_k1_4_v3 g0 g1 g2 g4 ?_
    have e0 := F_Plan_numberOf_31_k1_4_l3_s (φ := φ) (l2 := l2) (l4 := l4) n
    have f1 := iv_at (a := 32) (k := 4) (lo := 0) (u := 8) hI (by decide +kernel)
    refine ⟨by unfold hi; omega, by unfold hi; omega, fun q1 => ?_, fun q1 => ?_⟩
    · skip
      have e1a := e0.trans (if_pos q1)
      exact hQ (-1 : Int) ⟨by omega, by omega, by omega⟩ e1a
    · skip
      have e1b := e0.trans (if_neg q1)
      refine ⟨by omega, by omega, ?_⟩
      have f2 := hr_cmp (φ 33 ((32 + l4).toNat)) l2
      refine ⟨by unfold hi; omega, fun q4 => ?_, fun q4 => ?_⟩
      · skip
        have e4a := e1b.trans (if_pos q4)
        exact ih φ (jm_st1 L 4 (0, l4 + 1)) l2 (l4 + 1) (get_st1 g0 (by decide) (fun q => absurd q.1 (by decide))) (get_st1 g1 (by decide) (fun q => absurd q.1 (by decide))) (get_st1 g2 (by decide) (fun q => absurd q.1 (by decide))) get_st1e hI (by omega) (by omega) (by omega) (fun rr hpχ hEχ => hQ rr hpχ (e4a.trans hEχ))
      · skip
        have e4b := e1b.trans (if_neg q4)
        exact hQ l4 ⟨by omega, by omega, by omega⟩ e4b
theorem sf_42_31_k1_4_v {sc : List Int} {d : Nat} {φ : hf_F} {x : Nat} {Q : Option jm_V → hf_F → Nat → Prop} {v2 : Int}
    (H : hw sc d 42 3 (jm_st1 [(0, (2, 31)), (1, (0, 4)), (2, (1, v2))] 4 (0, 0)) [] φ x Q) :
    hw sc d 42 0 [(0, (2, 31)), (1, (0, 4)), (2, (1, v2))] [] φ x Q := by
  refine hw_k (c := 0) (b := 0) (e := 1) (by decide +kernel) ?_
  refine hw_st (L' := (jm_st1 [(0, (2, 31)), (1, (0, 4)), (2, (1, v2))] 4 (0, 0))) (b := 4) (e := 1) (by decide +kernel) rfl ?_
  exact H
theorem sf_42_31_k1_4 {sc : List Int} {d : Nat} {φ : hf_F} {x : Nat} {Q : Option jm_V → hf_F → Nat → Prop} {v2 : Int} (hI : Inv φ)  (hQ : ∀ (r : Int), (-1 : Int) ≤ r ∧ r ≤ 7 ∧ (r = -1 ∨ (0 ≤ r ∧ r < φ 32 4 ∧ φ 32 4 ≤ 8)) → F_Plan_numberOf_31_k1_4 φ v2 = r → Q (some (0, r)) φ x) : hw sc d 42 0 [(0, (2, 31)), (1, (0, 4)), (2, (1, v2))] [] φ x Q := by
  apply sf_42_31_k1_4_v
  have e0 : F_Plan_numberOf_31_k1_4 φ v2 = _ := rfl
  exact sf_42_31_k1_4_l3 ((8 - 0 : Int).toNat + 1) φ (jm_st1 [(0, (2, 31)), (1, (0, 4)), (2, (1, v2))] 4 (0, 0)) v2 0 (get_st1 rfl (by decide) (fun q => absurd q.1 (by decide))) (get_st1 rfl (by decide) (fun q => absurd q.1 (by decide))) (get_st1 rfl (by decide) (fun q => absurd q.1 (by decide))) get_st1e hI (by omega) (by omega) (by omega) (fun rr hpχ hEχ => hQ rr hpχ (e0.trans hEχ))
theorem sf_47_1_31_k2_4_v {sc : List Int} {d : Nat} {φ : hf_F} {x : Nat} {Q : Option jm_V → hf_F → Nat → Prop} 
    (H : hi (φ 1 5) ∧ hi 2 ∧ ((φ 1 5) = 2 → hw sc d 42 0 [(0, (2, 31)), (1, (0, 4)), (2, (1, φ 1 8))] [] φ x (fun r ψ2 y2 => y2 = x ∧ φ = ψ2 ∧ (∃ z2 : Int, r = some (0, z2) ∧ (hi z2 ∧ hi (-1 : Int) ∧ (¬ z2 = (-1 : Int) → Q (some (0, z2)) φ x) ∧ (¬ (¬ z2 = (-1 : Int)) → hw sc d 37 0 [(0, (2, 1)), (1, (0, 3))] [] φ x (fun r ψ5 y5 => y5 = x ∧ (∃ z5 : Int, r = some (0, z5) ∧ (Q (some (0, z2)) ψ5 x)))))))) ∧ (¬ (φ 1 5) = 2 → hw sc d 37 0 [(0, (2, 1)), (1, (0, 1))] [] φ x (fun r ψ7 y7 => y7 = x ∧ (∃ z7 : Int, r = some (0, z7) ∧ (Q (some (0, (-1 : Int))) ψ7 x))))) :
    hw sc (d + 1) 47 0 [(0, (2, 1)), (1, (2, 31)), (2, (0, 4))] [] φ x Q := by
  refine hw_ald (b := 0) (e := 0) (by decide +kernel) rfl (by decide) ?_
  refine hr_gi (w := φ 1 5) (b := 1) (e := 5) 1 rfl (by decide +kernel) rfl ?_
  refine hw_k (c := 2) (b := 0) (e := 1) (by decide +kernel) ?_
  obtain ⟨hz1, hy1, ht1, hf1⟩ := H
  refine hw_if2 (a0 := 0) (b := 0) (e := 16) (by decide +kernel) hz1 hy1 (fun q => ?_) (fun q => ?_)
  · have H := ht1 q
    refine hw_ald (b := 1) (e := 0) (by decide +kernel) rfl (by decide) ?_
    refine hw_ld (b := 2) (e := 0) (by decide +kernel) rfl ?_
    refine hw_ald (b := 0) (e := 0) (by decide +kernel) rfl (by decide) ?_
    refine hr_gl (w := φ 1 8) (b := 1) (e := 8) 1 rfl (by decide +kernel) rfl ?_
    refine hr_call (a0 := 13) (b := 42) (e := 3) (nl := 5) (As := [(0, 4), (1, φ 1 8)]) (R := []) 31 rfl (by decide +kernel) rfl rfl (Nat.le_of_ble_eq_true rfl) (Nat.le_of_ble_eq_true rfl) ?_
    refine hw_mono H ?_
    rintro r ψ2 y2 ⟨hyx, hψx, z2, hr, H⟩
    subst hyx
    subst hψx
    subst hr
    refine ⟨hne0, ?_⟩
    show hw sc (d + 1) 47 25 [(0, (2, 1)), (1, (2, 31)), (2, (0, 4))] [(0, z2)] φ y2 Q
    refine hw_st (L' := (jm_st1 [(0, (2, 1)), (1, (2, 31)), (2, (0, 4))] 3 (0, z2))) (b := 3) (e := 0) (by decide +kernel) rfl ?_
    refine hw_ld (b := 3) (e := 0) (by decide +kernel) get_st1e ?_
    refine hw_k (c := (-1 : Int)) (b := 0) (e := 1) (by decide +kernel) ?_
    obtain ⟨hz3, hy3, ht3, hf3⟩ := H
    refine hw_if2 (a0 := 0) (b := 1) (e := 37) (by decide +kernel) hz3 hy3 (fun q => ?_) (fun q => ?_)
    · have H := ht3 q
      refine hw_ld (b := 3) (e := 0) (by decide +kernel) get_st1e ?_
      exact hw_ret (a0 := 0) (e := 0) (by decide +kernel) (Or.inl rfl) H
    · have H := hf3 q
      refine hw_ald (b := 0) (e := 0) (by decide +kernel) (get_st1 rfl (by decide) (fun q => absurd q.1 (by decide))) (by decide) ?_
      refine hw_k (c := 3) (b := 0) (e := 1) (by decide +kernel) ?_
      refine hr_call (a0 := 11) (b := 37) (e := 2) (nl := 2) (As := [(0, 3)]) (R := []) 1 rfl (by decide +kernel) rfl rfl (Nat.le_of_ble_eq_true rfl) (Nat.le_of_ble_eq_true rfl) ?_
      refine hw_mono H ?_
      rintro r ψ5 y5 ⟨hyx, z5, hr, H⟩
      subst hyx
      subst hr
      refine ⟨hne0, ?_⟩
      show hw sc (d + 1) 47 36 (jm_st1 [(0, (2, 1)), (1, (2, 31)), (2, (0, 4))] 3 (0, z2)) [(0, z5)] ψ5 y5 Q
      refine hw_pop (a0 := 0) (e := 0) (by decide +kernel) (by decide) ?_
      refine hw_ld (b := 3) (e := 0) (by decide +kernel) get_st1e ?_
      exact hw_ret (a0 := 0) (e := 0) (by decide +kernel) (Or.inl rfl) H
  · have H := hf1 q
    refine hw_ald (b := 0) (e := 0) (by decide +kernel) rfl (by decide) ?_
    refine hw_k (c := 1) (b := 0) (e := 1) (by decide +kernel) ?_
    refine hr_call (a0 := 11) (b := 37) (e := 2) (nl := 2) (As := [(0, 1)]) (R := []) 1 rfl (by decide +kernel) rfl rfl (Nat.le_of_ble_eq_true rfl) (Nat.le_of_ble_eq_true rfl) ?_
    refine hw_mono H ?_
    rintro r ψ7 y7 ⟨hyx, z7, hr, H⟩
    subst hyx
    subst hr
    refine ⟨hne0, ?_⟩
    show hw sc (d + 1) 47 13 [(0, (2, 1)), (1, (2, 31)), (2, (0, 4))] [(0, z7)] ψ7 y7 Q
    refine hw_pop (a0 := 0) (e := 0) (by decide +kernel) (by decide) ?_
    refine hw_k (c := (-1 : Int)) (b := 0) (e := 1) (by decide +kernel) ?_
    exact hw_ret (a0 := 0) (e := 0) (by decide +kernel) (Or.inl rfl) H
theorem sf_47_1_31_k2_4 {sc : List Int} {d : Nat} {φ : hf_F} {x : Nat} {Q : Option jm_V → hf_F → Nat → Prop}  (hI : Inv φ)  (hQ : ∀ (r : Int) (ψ : hf_F), Inv ψ → Fr [2009, 2010] φ ψ → (-1 : Int) ≤ r ∧ r ≤ 7 ∧ (r = -1 ∨ (0 ≤ r ∧ r < φ 32 4 ∧ φ 32 4 ≤ 8)) → F_Reader_peekNamed_1_31_k2_4 φ = (r, ψ) → Q (some (0, r)) ψ x) : hw sc (d + 1) 47 0 [(0, (2, 1)), (1, (2, 31)), (2, (0, 4))] [] φ x Q := by
  apply sf_47_1_31_k2_4_v
  have e0 : F_Reader_peekNamed_1_31_k2_4 φ = _ := rfl
  have f1 := iv_at (a := 1) (k := 5) (lo := 0) (u := 5) hI (by decide +kernel)
  refine ⟨by unfold hi; omega, by unfold hi; omega, fun q1 => ?_, fun q1 => ?_⟩
  · skip
    have e1a := e0.trans (if_pos q1)
    refine sf_42_31_k1_4 (φ := φ) hI  (fun z2 hp2 hE2 => ⟨rfl, rfl, z2, rfl, ?_⟩)
    have e2 := e1a.trans (bnp_e hE2)
    have f2 := iv_at (a := 32) (k := 4) (lo := 0) (u := 8) hI (by decide +kernel)
    refine ⟨by unfold hi; omega, by unfold hi; omega, fun q3 => ?_, fun q3 => ?_⟩
    · skip
      have e3a := e2.trans (if_pos q3)
      exact hQ z2 φ hI (fr_rf) ⟨by omega, by omega, by omega⟩ e3a
    · skip
      have e3b := e2.trans (if_neg q3)
      refine sf_37_1 (φ := φ) hI (by omega) (by omega) (fun z5 ψ5 hI5 hF5 hp5 hE5 => ⟨rfl, z5, rfl, ?_⟩)
      have hG5 : Fr [2009, 2010] φ ψ5 := fr_tr (fr_rf) hF5 (by decide)
      have e5 := e3b.trans (bnd_e hE5)
      exact hQ z2 ψ5 hI5 hG5 ⟨by omega, by omega, by omega⟩ e5
  · skip
    have e1b := e0.trans (if_neg q1)
    refine sf_37_1 (φ := φ) hI (by omega) (by omega) (fun z7 ψ7 hI7 hF7 hp7 hE7 => ⟨rfl, z7, rfl, ?_⟩)
    have hG7 : Fr [2009, 2010] φ ψ7 := fr_tr (fr_rf) hF7 (by decide)
    have e7 := e1b.trans (bnd_e hE7)
    have f3 := iv_at (a := 32) (k := 4) (lo := 0) (u := 8) hI (by decide +kernel)
    exact hQ (-1 : Int) ψ7 hI7 hG7 ⟨by omega, by omega, by omega⟩ e7
theorem sf_58_182_v {sc : List Int} {d : Nat} {φ : hf_F} {x : Nat} {Q : Option jm_V → hf_F → Nat → Prop} 
    (H : hw sc (d + 2) 29 0 [(0, (2, 1))] [] φ x (fun r ψ1 y1 => y1 = x ∧ (r = none ∧ (hw sc (d + 2) 47 0 [(0, (2, 1)), (1, (2, 31)), (2, (0, 4))] [] ψ1 x (fun r ψ2 y2 => y2 = x ∧ (∃ z2 : Int, r = some (0, z2) ∧ (hi z2 ∧ hi (-1 : Int) ∧ (¬ z2 = (-1 : Int) → hw sc (d + 2) 29 0 [(0, (2, 1))] [] ψ2 x (fun r ψ4 y4 => y4 = x ∧ (r = none ∧ (hw sc (d + 2) 47 0 [(0, (2, 1)), (1, (2, 31)), (2, (0, 4))] [] ψ4 x (fun r ψ5 y5 => y5 = x ∧ (∃ z5 : Int, r = some (0, z5) ∧ (hi z5 ∧ hi (-1 : Int) ∧ (¬ z5 = (-1 : Int) → hi z2 ∧ hi z5 ∧ (z2 = z5 → hw sc (d + 2) 37 0 [(0, (2, 1)), (1, (0, 3))] [] ψ5 x (fun r ψ8 y8 => y8 = x ∧ (∃ z8 : Int, r = some (0, z8) ∧ ((z8 = 0 ∨ z8 = 1) ∧ Q (some (0, z8)) ψ8 x)))) ∧ (¬ z2 = z5 → 0 ≤ z2 ∧ z2 < 8 ∧ (hi (hb_and (hb_shr (ψ5 41 ((z2).toNat)) z5) 1) ∧ ((hb_and (hb_shr (ψ5 41 ((z2).toNat)) z5) 1) = 0 → hw sc (d + 2) 29 0 [(0, (2, 1))] [] ψ5 x (fun r ψ12 y12 => y12 = x ∧ (r = none ∧ (hw sc (d + 2) 59 0 [(0, (2, 31)), (1, (0, z2)), (2, (0, z5))] [] ψ12 x (fun r ψ13 y13 => y13 = x ∧ (r = none ∧ (Q (some (0, 1)) ψ13 x))))))) ∧ (¬ (hb_and (hb_shr (ψ5 41 ((z2).toNat)) z5) 1) = 0 → hw sc (d + 2) 37 0 [(0, (2, 1)), (1, (0, 3))] [] ψ5 x (fun r ψ15 y15 => y15 = x ∧ (∃ z15 : Int, r = some (0, z15) ∧ ((z15 = 0 ∨ z15 = 1) ∧ Q (some (0, z15)) ψ15 x))))))) ∧ (¬ (¬ z5 = (-1 : Int)) → Q (some (0, 0)) ψ5 x)))))))) ∧ (¬ (¬ z2 = (-1 : Int)) → Q (some (0, 0)) ψ2 x)))))))) :
    hw sc (d + 3) 58 0 [(0, (2, 182))] [] φ x Q := by
  refine hw_ald (b := 0) (e := 0) (by decide +kernel) rfl (by decide) ?_
  refine hr_gr (w := 1) (b := 7) (e := 0) 182 rfl (by decide +kernel) ?_
  refine hr_call (a0 := 11) (b := 29) (e := 1) (nl := 1) (As := []) (R := []) 1 rfl (by decide +kernel) rfl rfl (Nat.le_of_ble_eq_true rfl) (Nat.le_of_ble_eq_true rfl) ?_
  refine hw_mono H ?_
  rintro r ψ1 y1 ⟨hyx, hr, H⟩
  subst hyx
  subst hr
  refine ⟨hnen, ?_⟩
  show hw sc (d + 3) 58 7 [(0, (2, 182))] [] ψ1 y1 Q
  refine hw_ald (b := 0) (e := 0) (by decide +kernel) rfl (by decide) ?_
  refine hr_gr (w := 1) (b := 7) (e := 0) 182 rfl (by decide +kernel) ?_
  refine hw_ald (b := 0) (e := 0) (by decide +kernel) rfl (by decide) ?_
  refine hr_gr (w := 31) (b := 7) (e := 1) 182 rfl (by decide +kernel) ?_
  refine hw_k (c := 4) (b := 0) (e := 1) (by decide +kernel) ?_
  refine hr_call (a0 := 11) (b := 47) (e := 3) (nl := 4) (As := [(2, 31), (0, 4)]) (R := []) 1 rfl (by decide +kernel) rfl rfl (Nat.le_of_ble_eq_true rfl) (Nat.le_of_ble_eq_true rfl) ?_
  refine hw_mono H ?_
  rintro r ψ2 y2 ⟨hyx, z2, hr, H⟩
  subst hyx
  subst hr
  refine ⟨hne0, ?_⟩
  show hw sc (d + 3) 58 19 [(0, (2, 182))] [(0, z2)] ψ2 y2 Q
  refine hw_st (L' := (jm_st1 [(0, (2, 182))] 1 (0, z2))) (b := 1) (e := 0) (by decide +kernel) rfl ?_
  refine hw_ld (b := 1) (e := 0) (by decide +kernel) get_st1e ?_
  refine hw_k (c := (-1 : Int)) (b := 0) (e := 1) (by decide +kernel) ?_
  obtain ⟨hz3, hy3, ht3, hf3⟩ := H
  refine hw_if2 (a0 := 0) (b := 1) (e := 27) (by decide +kernel) hz3 hy3 (fun q => ?_) (fun q => ?_)
  · have H := ht3 q
    refine hw_ald (b := 0) (e := 0) (by decide +kernel) (get_st1 rfl (by decide) (fun q => tg2 q.2)) (by decide) ?_
    refine hr_gr (w := 1) (b := 7) (e := 0) 182 rfl (by decide +kernel) ?_
    refine hr_call (a0 := 11) (b := 29) (e := 1) (nl := 1) (As := []) (R := []) 1 rfl (by decide +kernel) rfl rfl (Nat.le_of_ble_eq_true rfl) (Nat.le_of_ble_eq_true rfl) ?_
    refine hw_mono H ?_
    rintro r ψ4 y4 ⟨hyx, hr, H⟩
    subst hyx
    subst hr
    refine ⟨hnen, ?_⟩
    show hw sc (d + 3) 58 34 (jm_st1 [(0, (2, 182))] 1 (0, z2)) [] ψ4 y4 Q
    refine hw_ald (b := 0) (e := 0) (by decide +kernel) (get_st1 rfl (by decide) (fun q => tg2 q.2)) (by decide) ?_
    refine hr_gr (w := 1) (b := 7) (e := 0) 182 rfl (by decide +kernel) ?_
    refine hw_ald (b := 0) (e := 0) (by decide +kernel) (get_st1 rfl (by decide) (fun q => tg2 q.2)) (by decide) ?_
    refine hr_gr (w := 31) (b := 7) (e := 1) 182 rfl (by decide +kernel) ?_
    refine hw_k (c := 4) (b := 0) (e := 1) (by decide +kernel) ?_
    refine hr_call (a0 := 11) (b := 47) (e := 3) (nl := 4) (As := [(2, 31), (0, 4)]) (R := []) 1 rfl (by decide +kernel) rfl rfl (Nat.le_of_ble_eq_true rfl) (Nat.le_of_ble_eq_true rfl) ?_
    refine hw_mono H ?_
    rintro r ψ5 y5 ⟨hyx, z5, hr, H⟩
    subst hyx
    subst hr
    refine ⟨hne0, ?_⟩
    show hw sc (d + 3) 58 46 (jm_st1 [(0, (2, 182))] 1 (0, z2)) [(0, z5)] ψ5 y5 Q
    refine hw_st (L' := (jm_st1 (jm_st1 [(0, (2, 182))] 1 (0, z2)) 2 (0, z5))) (b := 2) (e := 0) (by decide +kernel) rfl ?_
    refine hw_ld (b := 2) (e := 0) (by decide +kernel) get_st1e ?_
    refine hw_k (c := (-1 : Int)) (b := 0) (e := 1) (by decide +kernel) ?_
    obtain ⟨hz6, hy6, ht6, hf6⟩ := H
    refine hw_if2 (a0 := 0) (b := 1) (e := 54) (by decide +kernel) hz6 hy6 (fun q => ?_) (fun q => ?_)
    · have H := ht6 q
      refine hw_ld (b := 1) (e := 0) (by decide +kernel) (get_st1 get_st1e (by decide) (fun q => tg0 q.2)) ?_
      refine hw_ld (b := 2) (e := 0) (by decide +kernel) get_st1e ?_
      obtain ⟨hz7, hy7, ht7, hf7⟩ := H
      refine hw_if2 (a0 := 0) (b := 0) (e := 75) (by decide +kernel) hz7 hy7 (fun q => ?_) (fun q => ?_)
      · have H := ht7 q
        refine hw_ald (b := 0) (e := 0) (by decide +kernel) (get_st1 (get_st1 rfl (by decide) (fun q => tg2 q.2)) (by decide) (fun q => absurd q.1 (by decide))) (by decide) ?_
        refine hr_gr (w := 1) (b := 7) (e := 0) 182 rfl (by decide +kernel) ?_
        refine hw_k (c := 3) (b := 0) (e := 1) (by decide +kernel) ?_
        refine hr_call (a0 := 11) (b := 37) (e := 2) (nl := 2) (As := [(0, 3)]) (R := []) 1 rfl (by decide +kernel) rfl rfl (Nat.le_of_ble_eq_true rfl) (Nat.le_of_ble_eq_true rfl) ?_
        refine hw_mono H ?_
        rintro r ψ8 y8 ⟨hyx, z8, hr, H⟩
        subst hyx
        subst hr
        refine ⟨hne0, ?_⟩
        show hw sc (d + 3) 58 83 (jm_st1 (jm_st1 [(0, (2, 182))] 1 (0, z2)) 2 (0, z5)) [(0, z8)] ψ8 y8 Q
        exact hw_ret (a0 := 0) (e := 1) (by decide +kernel) (Or.inr ⟨rfl, H.1⟩) H.2
      · have H := hf7 q
        refine hw_ald (b := 0) (e := 0) (by decide +kernel) (get_st1 (get_st1 rfl (by decide) (fun q => tg2 q.2)) (by decide) (fun q => absurd q.1 (by decide))) (by decide) ?_
        refine hr_gr (w := 31) (b := 7) (e := 1) 182 rfl (by decide +kernel) ?_
        refine hr_gr (w := 41) (b := 3) (e := 9) 31 rfl (by decide +kernel) ?_
        refine hw_ld (b := 1) (e := 0) (by decide +kernel) (get_st1 get_st1e (by decide) (fun q => tg0 q.2)) ?_
        obtain ⟨hl10, hu10, H⟩ := H
        refine hr_al (b := 0) (a0 := 0) (e := 0) (n := 8) (w := ψ5 41 ((z2).toNat)) 41 rfl (by decide +kernel) (by decide) hl10 hu10 rfl ?_
        refine hw_ld (b := 2) (e := 0) (by decide +kernel) get_st1e ?_
        refine hw_bin (w := hb_shr (ψ5 41 ((z2).toNat)) z5) (a0 := 0) (b := 7) (e := 0) (by decide +kernel) rfl ?_
        refine hw_k (c := 1) (b := 0) (e := 1) (by decide +kernel) ?_
        refine hw_bin (w := hb_and (hb_shr (ψ5 41 ((z2).toNat)) z5) 1) (a0 := 0) (b := 3) (e := 0) (by decide +kernel) rfl ?_
        obtain ⟨hz11, ht11, hf11⟩ := H
        refine hw_if (a0 := 0) (b := 0) (e := 84) (by decide +kernel) hz11 (fun q => ?_) (fun q => ?_)
        · have H := ht11 q
          refine hw_ald (b := 0) (e := 0) (by decide +kernel) (get_st1 (get_st1 rfl (by decide) (fun q => tg2 q.2)) (by decide) (fun q => absurd q.1 (by decide))) (by decide) ?_
          refine hr_gr (w := 1) (b := 7) (e := 0) 182 rfl (by decide +kernel) ?_
          refine hr_call (a0 := 11) (b := 29) (e := 1) (nl := 1) (As := []) (R := []) 1 rfl (by decide +kernel) rfl rfl (Nat.le_of_ble_eq_true rfl) (Nat.le_of_ble_eq_true rfl) ?_
          refine hw_mono H ?_
          rintro r ψ12 y12 ⟨hyx, hr, H⟩
          subst hyx
          subst hr
          refine ⟨hnen, ?_⟩
          show hw sc (d + 3) 58 91 (jm_st1 (jm_st1 [(0, (2, 182))] 1 (0, z2)) 2 (0, z5)) [] ψ12 y12 Q
          refine hw_ald (b := 0) (e := 0) (by decide +kernel) (get_st1 (get_st1 rfl (by decide) (fun q => tg2 q.2)) (by decide) (fun q => absurd q.1 (by decide))) (by decide) ?_
          refine hr_gr (w := 31) (b := 7) (e := 1) 182 rfl (by decide +kernel) ?_
          refine hw_ld (b := 1) (e := 0) (by decide +kernel) (get_st1 get_st1e (by decide) (fun q => tg0 q.2)) ?_
          refine hw_ld (b := 2) (e := 0) (by decide +kernel) get_st1e ?_
          refine hr_call (a0 := 13) (b := 59) (e := 3) (nl := 3) (As := [(0, z2), (0, z5)]) (R := []) 31 rfl (by decide +kernel) rfl rfl (Nat.le_of_ble_eq_true rfl) (Nat.le_of_ble_eq_true rfl) ?_
          refine hw_mono H ?_
          rintro r ψ13 y13 ⟨hyx, hr, H⟩
          subst hyx
          subst hr
          refine ⟨hnen, ?_⟩
          show hw sc (d + 3) 58 100 (jm_st1 (jm_st1 [(0, (2, 182))] 1 (0, z2)) 2 (0, z5)) [] ψ13 y13 Q
          refine hw_k (c := 1) (b := 0) (e := 1) (by decide +kernel) ?_
          exact hw_ret (a0 := 0) (e := 1) (by decide +kernel) (Or.inr ⟨rfl, by decide⟩) H
        · have H := hf11 q
          refine hw_ald (b := 0) (e := 0) (by decide +kernel) (get_st1 (get_st1 rfl (by decide) (fun q => tg2 q.2)) (by decide) (fun q => absurd q.1 (by decide))) (by decide) ?_
          refine hr_gr (w := 1) (b := 7) (e := 0) 182 rfl (by decide +kernel) ?_
          refine hw_k (c := 3) (b := 0) (e := 1) (by decide +kernel) ?_
          refine hr_call (a0 := 11) (b := 37) (e := 2) (nl := 2) (As := [(0, 3)]) (R := []) 1 rfl (by decide +kernel) rfl rfl (Nat.le_of_ble_eq_true rfl) (Nat.le_of_ble_eq_true rfl) ?_
          refine hw_mono H ?_
          rintro r ψ15 y15 ⟨hyx, z15, hr, H⟩
          subst hyx
          subst hr
          refine ⟨hne0, ?_⟩
          show hw sc (d + 3) 58 83 (jm_st1 (jm_st1 [(0, (2, 182))] 1 (0, z2)) 2 (0, z5)) [(0, z15)] ψ15 y15 Q
          exact hw_ret (a0 := 0) (e := 1) (by decide +kernel) (Or.inr ⟨rfl, H.1⟩) H.2
    · have H := hf6 q
      refine hw_k (c := 0) (b := 0) (e := 1) (by decide +kernel) ?_
      exact hw_ret (a0 := 0) (e := 1) (by decide +kernel) (Or.inr ⟨rfl, by decide⟩) H
  · have H := hf3 q
    refine hw_k (c := 0) (b := 0) (e := 1) (by decide +kernel) ?_
    exact hw_ret (a0 := 0) (e := 1) (by decide +kernel) (Or.inr ⟨rfl, by decide⟩) H
theorem sf_58_182 {sc : List Int} {d : Nat} {φ : hf_F} {x : Nat} {Q : Option jm_V → hf_F → Nat → Prop}  (hI : Inv φ)  (hQ : ∀ (r : Int) (ψ : hf_F), Inv ψ → Fr [41, 2004, 2005, 2006, 2007, 2008, 2009, 2010] φ ψ → 0 ≤ r ∧ r ≤ 1 → F_RideText_readClash_182 φ = (r, ψ) → Q (some (0, r)) ψ x) : hw sc (d + 3) 58 0 [(0, (2, 182))] [] φ x Q := by
  apply sf_58_182_v
  have e0 : F_RideText_readClash_182 φ = _ := rfl
  refine sf_29_1 (φ := φ) hI  (fun ψ1 hI1 hF1 hE1 => ⟨rfl, rfl, ?_⟩)
  have hG1 : Fr [41, 2004, 2005, 2006, 2007, 2008, 2009, 2010] φ ψ1 := fr_tr (fr_rf) hF1 (by decide)
  have e1 := e0.trans (bnv_e hE1)
  refine sf_47_1_31_k2_4 (φ := ψ1) hI1  (fun z2 ψ2 hI2 hF2 hp2 hE2 => ⟨rfl, z2, rfl, ?_⟩)
  have hG2 : Fr [41, 2004, 2005, 2006, 2007, 2008, 2009, 2010] φ ψ2 := fr_tr hG1 hF2 (by decide)
  have f1 := iv_at (a := 32) (k := 4) (lo := 0) (u := 8) hI1 (by decide +kernel)
  have f2 : ψ1 32 4 = φ 32 4 := (fr_at hF1 32 (by decide) 4)
  have f3 := iv_at (a := 32) (k := 4) (lo := 0) (u := 8) hI (by decide +kernel)
  have e2 := e1.trans (bnd_e hE2)
  refine ⟨by unfold hi; omega, by unfold hi; omega, fun q3 => ?_, fun q3 => ?_⟩
  · skip
    have e3a := e2.trans (if_pos q3)
    refine sf_29_1 (φ := ψ2) hI2  (fun ψ4 hI4 hF4 hE4 => ⟨rfl, rfl, ?_⟩)
    have hG4 : Fr [41, 2004, 2005, 2006, 2007, 2008, 2009, 2010] φ ψ4 := fr_tr hG2 hF4 (by decide)
    have e4 := e3a.trans (bnv_e hE4)
    refine sf_47_1_31_k2_4 (φ := ψ4) hI4  (fun z5 ψ5 hI5 hF5 hp5 hE5 => ⟨rfl, z5, rfl, ?_⟩)
    have hG5 : Fr [41, 2004, 2005, 2006, 2007, 2008, 2009, 2010] φ ψ5 := fr_tr hG4 hF5 (by decide)
    have f4 := iv_at (a := 32) (k := 4) (lo := 0) (u := 8) hI4 (by decide +kernel)
    have f5 : ψ4 32 4 = ψ2 32 4 := (fr_at hF4 32 (by decide) 4)
    have f6 := iv_at (a := 32) (k := 4) (lo := 0) (u := 8) hI2 (by decide +kernel)
    have f7 : ψ2 32 4 = ψ1 32 4 := (fr_at hF2 32 (by decide) 4)
    have e5 := e4.trans (bnd_e hE5)
    refine ⟨by unfold hi; omega, by unfold hi; omega, fun q6 => ?_, fun q6 => ?_⟩
    · skip
      have e6a := e5.trans (if_pos q6)
      refine ⟨by unfold hi; omega, by unfold hi; omega, fun q7 => ?_, fun q7 => ?_⟩
      · skip
        have e7a := e6a.trans (if_pos q7)
        refine sf_37_1 (φ := ψ5) hI5 (by omega) (by omega) (fun z8 ψ8 hI8 hF8 hp8 hE8 => ⟨rfl, z8, rfl, ?_⟩)
        have hG8 : Fr [41, 2004, 2005, 2006, 2007, 2008, 2009, 2010] φ ψ8 := fr_tr hG5 hF8 (by decide)
        have e8 := e7a.trans (bnd_e hE8)
        refine ⟨by omega, ?_⟩
        exact hQ z8 ψ8 hI8 hG8 ⟨by omega, by omega⟩ e8
      · skip
        have e7b := e6a.trans (if_neg q7)
        refine ⟨by omega, by omega, ?_⟩
        have f8 := iv_ar (a := 41) (s := 0) (t := 8) (lo := (-2147483648 : Int)) (u := 2147483647) (z := z2) hI5 (by decide +kernel) (by omega) (by omega)
        have f9 : ψ5 41 ((z2).toNat) = ψ4 41 ((z2).toNat) := (fr_at hF5 41 (by decide) ((z2).toNat))
        have f10 := iv_ar (a := 41) (s := 0) (t := 8) (lo := (-2147483648 : Int)) (u := 2147483647) (z := z2) hI4 (by decide +kernel) (by omega) (by omega)
        have f11 : ψ4 41 ((z2).toNat) = ψ2 41 ((z2).toNat) := (fr_at hF4 41 (by decide) ((z2).toNat))
        have f12 := iv_ar (a := 41) (s := 0) (t := 8) (lo := (-2147483648 : Int)) (u := 2147483647) (z := z2) hI2 (by decide +kernel) (by omega) (by omega)
        have f13 : ψ2 41 ((z2).toNat) = ψ1 41 ((z2).toNat) := (fr_at hF2 41 (by decide) ((z2).toNat))
        have f14 := iv_ar (a := 41) (s := 0) (t := 8) (lo := (-2147483648 : Int)) (u := 2147483647) (z := z2) hI1 (by decide +kernel) (by omega) (by omega)
        have f15 : ψ1 41 ((z2).toNat) = φ 41 ((z2).toNat) := (fr_at hF1 41 (by decide) ((z2).toNat))
        have f16 := iv_ar (a := 41) (s := 0) (t := 8) (lo := (-2147483648 : Int)) (u := 2147483647) (z := z2) hI (by decide +kernel) (by omega) (by omega)
        have f17 := hr_shr0 (ψ5 41 ((z2).toNat)) z5
        have f18 := hr_shr (ψ5 41 ((z2).toNat)) z5
        have f19 := hr_and0 (hb_shr (ψ5 41 ((z2).toNat)) z5) 1
        have f20 := hr_and1 (hb_shr (ψ5 41 ((z2).toNat)) z5)
        have f21 := hr_and (hb_shr (ψ5 41 ((z2).toNat)) z5) 1
        refine ⟨by unfold hi; omega, fun q11 => ?_, fun q11 => ?_⟩
        · skip
          have e11a := e7b.trans (if_pos q11)
          refine sf_29_1 (φ := ψ5) hI5  (fun ψ12 hI12 hF12 hE12 => ⟨rfl, rfl, ?_⟩)
          have hG12 : Fr [41, 2004, 2005, 2006, 2007, 2008, 2009, 2010] φ ψ12 := fr_tr hG5 hF12 (by decide)
          have e12 := e11a.trans (bnv_e hE12)
          refine sf_59_31 (φ := ψ12) hI12 (by omega) (by omega) (by omega) (by omega) (fun ψ13 hI13 hF13 hE13 => ⟨rfl, rfl, ?_⟩)
          have hG13 : Fr [41, 2004, 2005, 2006, 2007, 2008, 2009, 2010] φ ψ13 := fr_tr hG12 hF13 (by decide)
          have e13 := e12.trans (bnv_e hE13)
          exact hQ 1 ψ13 hI13 hG13 ⟨by omega, by omega⟩ e13
        · skip
          have e11b := e7b.trans (if_neg q11)
          refine sf_37_1 (φ := ψ5) hI5 (by omega) (by omega) (fun z15 ψ15 hI15 hF15 hp15 hE15 => ⟨rfl, z15, rfl, ?_⟩)
          have hG15 : Fr [41, 2004, 2005, 2006, 2007, 2008, 2009, 2010] φ ψ15 := fr_tr hG5 hF15 (by decide)
          have e15 := e11b.trans (bnd_e hE15)
          refine ⟨by omega, ?_⟩
          exact hQ z15 ψ15 hI15 hG15 ⟨by omega, by omega⟩ e15
    · skip
      have e6b := e5.trans (if_neg q6)
      exact hQ 0 ψ5 hI5 hG5 ⟨by omega, by omega⟩ e6b
  · skip
    have e3b := e2.trans (if_neg q3)
    exact hQ 0 ψ2 hI2 hG2 ⟨by omega, by omega⟩ e3b
theorem sf_36_182_v {sc : List Int} {d : Nat} {φ : hf_F} {x : Nat} {Q : Option jm_V → hf_F → Nat → Prop} 
    (H : hi (φ 1 5) ∧ hi 3 ∧ ((φ 1 5) = 3 → hi (φ 1 7) ∧ ((φ 1 7) = 0 → hw sc (d + 4) 38 0 [(0, (2, 182))] [] φ x (fun r ψ3 y3 => y3 = x ∧ (∃ z3 : Int, r = some (0, z3) ∧ ((z3 = 0 ∨ z3 = 1) ∧ Q (some (0, z3)) ψ3 x)))) ∧ ((φ 1 7) = 1 → hw sc (d + 4) 46 0 [(0, (2, 182))] [] φ x (fun r ψ5 y5 => y5 = x ∧ (∃ z5 : Int, r = some (0, z5) ∧ ((z5 = 0 ∨ z5 = 1) ∧ Q (some (0, z5)) ψ5 x)))) ∧ ((φ 1 7) = 2 → hw sc (d + 4) 50 0 [(0, (2, 182))] [] φ x (fun r ψ7 y7 => y7 = x ∧ (∃ z7 : Int, r = some (0, z7) ∧ ((z7 = 0 ∨ z7 = 1) ∧ Q (some (0, z7)) ψ7 x)))) ∧ ((φ 1 7) = 3 → hw sc (d + 4) 51 0 [(0, (2, 182))] [] φ x (fun r ψ9 y9 => y9 = x ∧ (∃ z9 : Int, r = some (0, z9) ∧ ((z9 = 0 ∨ z9 = 1) ∧ Q (some (0, z9)) ψ9 x)))) ∧ ((φ 1 7) = 4 → hw sc (d + 4) 53 0 [(0, (2, 182))] [] φ x (fun r ψ11 y11 => y11 = x ∧ (∃ z11 : Int, r = some (0, z11) ∧ ((z11 = 0 ∨ z11 = 1) ∧ Q (some (0, z11)) ψ11 x)))) ∧ ((φ 1 7) = 5 → hw sc (d + 4) 56 0 [(0, (2, 182))] [] φ x (fun r ψ13 y13 => y13 = x ∧ (∃ z13 : Int, r = some (0, z13) ∧ ((z13 = 0 ∨ z13 = 1) ∧ Q (some (0, z13)) ψ13 x)))) ∧ ((φ 1 7) = 6 → hw sc (d + 4) 58 0 [(0, (2, 182))] [] φ x (fun r ψ15 y15 => y15 = x ∧ (∃ z15 : Int, r = some (0, z15) ∧ ((z15 = 0 ∨ z15 = 1) ∧ Q (some (0, z15)) ψ15 x)))) ∧ (((φ 1 7) < 0 ∨ 7 ≤ (φ 1 7)) → hw sc (d + 4) 37 0 [(0, (2, 1)), (1, (0, 1))] [] φ x (fun r ψ17 y17 => y17 = x ∧ (∃ z17 : Int, r = some (0, z17) ∧ ((z17 = 0 ∨ z17 = 1) ∧ Q (some (0, z17)) ψ17 x))))) ∧ (¬ (φ 1 5) = 3 → hw sc (d + 4) 37 0 [(0, (2, 1)), (1, (0, 1))] [] φ x (fun r ψ19 y19 => y19 = x ∧ (∃ z19 : Int, r = some (0, z19) ∧ ((z19 = 0 ∨ z19 = 1) ∧ Q (some (0, z19)) ψ19 x))))) :
    hw sc (d + 5) 36 0 [(0, (2, 182))] [] φ x Q := by
  refine hw_ald (b := 0) (e := 0) (by decide +kernel) rfl (by decide) ?_
  refine hr_gr (w := 1) (b := 7) (e := 0) 182 rfl (by decide +kernel) ?_
  refine hr_gi (w := φ 1 5) (b := 1) (e := 5) 1 rfl (by decide +kernel) rfl ?_
  refine hw_k (c := 3) (b := 0) (e := 1) (by decide +kernel) ?_
  obtain ⟨hz1, hy1, ht1, hf1⟩ := H
  refine hw_if2 (a0 := 0) (b := 0) (e := 20) (by decide +kernel) hz1 hy1 (fun q => ?_) (fun q => ?_)
  · have H := ht1 q
    refine hw_ald (b := 0) (e := 0) (by decide +kernel) rfl (by decide) ?_
    refine hr_gr (w := 1) (b := 7) (e := 0) 182 rfl (by decide +kernel) ?_
    refine hr_gi (w := φ 1 7) (b := 1) (e := 7) 1 rfl (by decide +kernel) rfl ?_
    obtain ⟨hz2, H⟩ := H
    refine hr_tsw (T := [68, 73, 78, 83, 88, 93, 98]) (lo := 0) (nn := 7) (b := 103) (e := 0) (by decide +kernel) rfl hz2 ?_ ?_
    · intro q
      have H := H.2.2.2.2.2.2.2 q
      refine hw_ald (b := 0) (e := 0) (by decide +kernel) rfl (by decide) ?_
      refine hr_gr (w := 1) (b := 7) (e := 0) 182 rfl (by decide +kernel) ?_
      refine hw_k (c := 1) (b := 0) (e := 1) (by decide +kernel) ?_
      refine hr_call (a0 := 11) (b := 37) (e := 2) (nl := 2) (As := [(0, 1)]) (R := []) 1 rfl (by decide +kernel) rfl rfl (Nat.le_of_ble_eq_true rfl) (Nat.le_of_ble_eq_true rfl) ?_
      refine hw_mono H ?_
      rintro r ψ17 y17 ⟨hyx, z17, hr, H⟩
      subst hyx
      subst hr
      refine ⟨hne0, ?_⟩
      show hw sc (d + 5) 36 111 [(0, (2, 182))] [(0, z17)] ψ17 y17 Q
      exact hw_ret (a0 := 0) (e := 1) (by decide +kernel) (Or.inr ⟨rfl, H.1⟩) H.2
    · intro kq tq htq hzq
      match kq, htq, hzq with
      | 0, htq, hzq =>
        cases htq
        have H := H.1 (by omega)
        refine hw_ald (b := 0) (e := 0) (by decide +kernel) rfl (by decide) ?_
        refine hr_call (a0 := 17) (b := 38) (e := 1) (nl := 5) (As := []) (R := []) 182 rfl (by decide +kernel) rfl rfl (Nat.le_of_ble_eq_true rfl) (Nat.le_of_ble_eq_true rfl) ?_
        refine hw_mono H ?_
        rintro r ψ3 y3 ⟨hyx, z3, hr, H⟩
        subst hyx
        subst hr
        refine ⟨hne0, ?_⟩
        show hw sc (d + 5) 36 72 [(0, (2, 182))] [(0, z3)] ψ3 y3 Q
        exact hw_ret (a0 := 0) (e := 1) (by decide +kernel) (Or.inr ⟨rfl, H.1⟩) H.2
      | 1, htq, hzq =>
        cases htq
        have H := H.2.1 (by omega)
        refine hw_ald (b := 0) (e := 0) (by decide +kernel) rfl (by decide) ?_
        refine hr_call (a0 := 17) (b := 46) (e := 1) (nl := 5) (As := []) (R := []) 182 rfl (by decide +kernel) rfl rfl (Nat.le_of_ble_eq_true rfl) (Nat.le_of_ble_eq_true rfl) ?_
        refine hw_mono H ?_
        rintro r ψ5 y5 ⟨hyx, z5, hr, H⟩
        subst hyx
        subst hr
        refine ⟨hne0, ?_⟩
        show hw sc (d + 5) 36 77 [(0, (2, 182))] [(0, z5)] ψ5 y5 Q
        exact hw_ret (a0 := 0) (e := 1) (by decide +kernel) (Or.inr ⟨rfl, H.1⟩) H.2
      | 2, htq, hzq =>
        cases htq
        have H := H.2.2.1 (by omega)
        refine hw_ald (b := 0) (e := 0) (by decide +kernel) rfl (by decide) ?_
        refine hr_call (a0 := 17) (b := 50) (e := 1) (nl := 3) (As := []) (R := []) 182 rfl (by decide +kernel) rfl rfl (Nat.le_of_ble_eq_true rfl) (Nat.le_of_ble_eq_true rfl) ?_
        refine hw_mono H ?_
        rintro r ψ7 y7 ⟨hyx, z7, hr, H⟩
        subst hyx
        subst hr
        refine ⟨hne0, ?_⟩
        show hw sc (d + 5) 36 82 [(0, (2, 182))] [(0, z7)] ψ7 y7 Q
        exact hw_ret (a0 := 0) (e := 1) (by decide +kernel) (Or.inr ⟨rfl, H.1⟩) H.2
      | 3, htq, hzq =>
        cases htq
        have H := H.2.2.2.1 (by omega)
        refine hw_ald (b := 0) (e := 0) (by decide +kernel) rfl (by decide) ?_
        refine hr_call (a0 := 17) (b := 51) (e := 1) (nl := 4) (As := []) (R := []) 182 rfl (by decide +kernel) rfl rfl (Nat.le_of_ble_eq_true rfl) (Nat.le_of_ble_eq_true rfl) ?_
        refine hw_mono H ?_
        rintro r ψ9 y9 ⟨hyx, z9, hr, H⟩
        subst hyx
        subst hr
        refine ⟨hne0, ?_⟩
        show hw sc (d + 5) 36 87 [(0, (2, 182))] [(0, z9)] ψ9 y9 Q
        exact hw_ret (a0 := 0) (e := 1) (by decide +kernel) (Or.inr ⟨rfl, H.1⟩) H.2
      | 4, htq, hzq =>
        cases htq
        have H := H.2.2.2.2.1 (by omega)
        refine hw_ald (b := 0) (e := 0) (by decide +kernel) rfl (by decide) ?_
        refine hr_call (a0 := 17) (b := 53) (e := 1) (nl := 3) (As := []) (R := []) 182 rfl (by decide +kernel) rfl rfl (Nat.le_of_ble_eq_true rfl) (Nat.le_of_ble_eq_true rfl) ?_
        refine hw_mono H ?_
        rintro r ψ11 y11 ⟨hyx, z11, hr, H⟩
        subst hyx
        subst hr
        refine ⟨hne0, ?_⟩
        show hw sc (d + 5) 36 92 [(0, (2, 182))] [(0, z11)] ψ11 y11 Q
        exact hw_ret (a0 := 0) (e := 1) (by decide +kernel) (Or.inr ⟨rfl, H.1⟩) H.2
      | 5, htq, hzq =>
        cases htq
        have H := H.2.2.2.2.2.1 (by omega)
        refine hw_ald (b := 0) (e := 0) (by decide +kernel) rfl (by decide) ?_
        refine hr_call (a0 := 17) (b := 56) (e := 1) (nl := 5) (As := []) (R := []) 182 rfl (by decide +kernel) rfl rfl (Nat.le_of_ble_eq_true rfl) (Nat.le_of_ble_eq_true rfl) ?_
        refine hw_mono H ?_
        rintro r ψ13 y13 ⟨hyx, z13, hr, H⟩
        subst hyx
        subst hr
        refine ⟨hne0, ?_⟩
        show hw sc (d + 5) 36 97 [(0, (2, 182))] [(0, z13)] ψ13 y13 Q
        exact hw_ret (a0 := 0) (e := 1) (by decide +kernel) (Or.inr ⟨rfl, H.1⟩) H.2
      | 6, htq, hzq =>
        cases htq
        have H := H.2.2.2.2.2.2.1 (by omega)
        refine hw_ald (b := 0) (e := 0) (by decide +kernel) rfl (by decide) ?_
        refine hr_call (a0 := 17) (b := 58) (e := 1) (nl := 3) (As := []) (R := []) 182 rfl (by decide +kernel) rfl rfl (Nat.le_of_ble_eq_true rfl) (Nat.le_of_ble_eq_true rfl) ?_
        refine hw_mono H ?_
        rintro r ψ15 y15 ⟨hyx, z15, hr, H⟩
        subst hyx
        subst hr
        refine ⟨hne0, ?_⟩
        show hw sc (d + 5) 36 102 [(0, (2, 182))] [(0, z15)] ψ15 y15 Q
        exact hw_ret (a0 := 0) (e := 1) (by decide +kernel) (Or.inr ⟨rfl, H.1⟩) H.2
      | kq + 7, htq, _ => cases htq
  · have H := hf1 q
    refine hw_ald (b := 0) (e := 0) (by decide +kernel) rfl (by decide) ?_
    refine hr_gr (w := 1) (b := 7) (e := 0) 182 rfl (by decide +kernel) ?_
    refine hw_k (c := 1) (b := 0) (e := 1) (by decide +kernel) ?_
    refine hr_call (a0 := 11) (b := 37) (e := 2) (nl := 2) (As := [(0, 1)]) (R := []) 1 rfl (by decide +kernel) rfl rfl (Nat.le_of_ble_eq_true rfl) (Nat.le_of_ble_eq_true rfl) ?_
    refine hw_mono H ?_
    rintro r ψ19 y19 ⟨hyx, z19, hr, H⟩
    subst hyx
    subst hr
    refine ⟨hne0, ?_⟩
    show hw sc (d + 5) 36 19 [(0, (2, 182))] [(0, z19)] ψ19 y19 Q
    exact hw_ret (a0 := 0) (e := 1) (by decide +kernel) (Or.inr ⟨rfl, H.1⟩) H.2
theorem sf_36_182 {sc : List Int} {d : Nat} {φ : hf_F} {x : Nat} {Q : Option jm_V → hf_F → Nat → Prop}  (hI : Inv φ)  (hQ : ∀ (r : Int) (ψ : hf_F), Inv ψ → Fr [32, 33, 34, 35, 36, 37, 38, 39, 40, 41, 42, 44, 45, 46, 47, 48, 2004, 2005, 2006, 2007, 2008, 2009, 2010] φ ψ → 0 ≤ r ∧ r ≤ 1 → F_RideText_readLine_182 φ = (r, ψ) → Q (some (0, r)) ψ x) : hw sc (d + 5) 36 0 [(0, (2, 182))] [] φ x Q := by
  apply sf_36_182_v
  have e0 : F_RideText_readLine_182 φ = _ := rfl
  have f1 := iv_at (a := 1) (k := 5) (lo := 0) (u := 5) hI (by decide +kernel)
  refine ⟨by unfold hi; omega, by unfold hi; omega, fun q1 => ?_, fun q1 => ?_⟩
  · skip
    have e1a := e0.trans (if_pos q1)
    have f2 := iv_at (a := 1) (k := 7) (lo := (-128 : Int)) (u := 999) hI (by decide +kernel)
    refine ⟨by unfold hi; omega, fun q2 => ?_, fun q2 => ?_, fun q2 => ?_, fun q2 => ?_, fun q2 => ?_, fun q2 => ?_, fun q2 => ?_, fun q2 => ?_⟩
    · skip
      have e2_0 := (e1a).trans (if_pos q2)
      refine sf_38_182 (φ := φ) hI  (fun z3 ψ3 hI3 hF3 hp3 hE3 => ⟨rfl, z3, rfl, ?_⟩)
      have hG3 : Fr [32, 33, 34, 35, 36, 37, 38, 39, 40, 41, 42, 44, 45, 46, 47, 48, 2004, 2005, 2006, 2007, 2008, 2009, 2010] φ ψ3 := fr_tr (fr_rf) hF3 (by decide)
      have e3 := e2_0.trans (bnd_e hE3)
      refine ⟨by omega, ?_⟩
      exact hQ z3 ψ3 hI3 hG3 ⟨by omega, by omega⟩ e3
    · skip
      have e2_1 := ((e1a).trans (if_neg (by omega))).trans (if_pos q2)
      refine sf_46_182 (φ := φ) hI  (fun z5 ψ5 hI5 hF5 hp5 hE5 => ⟨rfl, z5, rfl, ?_⟩)
      have hG5 : Fr [32, 33, 34, 35, 36, 37, 38, 39, 40, 41, 42, 44, 45, 46, 47, 48, 2004, 2005, 2006, 2007, 2008, 2009, 2010] φ ψ5 := fr_tr (fr_rf) hF5 (by decide)
      have e5 := e2_1.trans (bnd_e hE5)
      refine ⟨by omega, ?_⟩
      exact hQ z5 ψ5 hI5 hG5 ⟨by omega, by omega⟩ e5
    · skip
      have e2_2 := (((e1a).trans (if_neg (by omega))).trans (if_neg (by omega))).trans (if_pos q2)
      refine sf_50_182 (φ := φ) hI  (fun z7 ψ7 hI7 hF7 hp7 hE7 => ⟨rfl, z7, rfl, ?_⟩)
      have hG7 : Fr [32, 33, 34, 35, 36, 37, 38, 39, 40, 41, 42, 44, 45, 46, 47, 48, 2004, 2005, 2006, 2007, 2008, 2009, 2010] φ ψ7 := fr_tr (fr_rf) hF7 (by decide)
      have e7 := e2_2.trans (bnd_e hE7)
      refine ⟨by omega, ?_⟩
      exact hQ z7 ψ7 hI7 hG7 ⟨by omega, by omega⟩ e7
    · skip
      have e2_3 := ((((e1a).trans (if_neg (by omega))).trans (if_neg (by omega))).trans (if_neg (by omega))).trans (if_pos q2)
      refine sf_51_182 (φ := φ) hI  (fun z9 ψ9 hI9 hF9 hp9 hE9 => ⟨rfl, z9, rfl, ?_⟩)
      have hG9 : Fr [32, 33, 34, 35, 36, 37, 38, 39, 40, 41, 42, 44, 45, 46, 47, 48, 2004, 2005, 2006, 2007, 2008, 2009, 2010] φ ψ9 := fr_tr (fr_rf) hF9 (by decide)
      have e9 := e2_3.trans (bnd_e hE9)
      refine ⟨by omega, ?_⟩
      exact hQ z9 ψ9 hI9 hG9 ⟨by omega, by omega⟩ e9
    · skip
      have e2_4 := (((((e1a).trans (if_neg (by omega))).trans (if_neg (by omega))).trans (if_neg (by omega))).trans (if_neg (by omega))).trans (if_pos q2)
      refine sf_53_182 (φ := φ) hI  (fun z11 ψ11 hI11 hF11 hp11 hE11 => ⟨rfl, z11, rfl, ?_⟩)
      have hG11 : Fr [32, 33, 34, 35, 36, 37, 38, 39, 40, 41, 42, 44, 45, 46, 47, 48, 2004, 2005, 2006, 2007, 2008, 2009, 2010] φ ψ11 := fr_tr (fr_rf) hF11 (by decide)
      have e11 := e2_4.trans (bnd_e hE11)
      refine ⟨by omega, ?_⟩
      exact hQ z11 ψ11 hI11 hG11 ⟨by omega, by omega⟩ e11
    · skip
      have e2_5 := ((((((e1a).trans (if_neg (by omega))).trans (if_neg (by omega))).trans (if_neg (by omega))).trans (if_neg (by omega))).trans (if_neg (by omega))).trans (if_pos q2)
      refine sf_56_182 (φ := φ) hI  (fun z13 ψ13 hI13 hF13 hp13 hE13 => ⟨rfl, z13, rfl, ?_⟩)
      have hG13 : Fr [32, 33, 34, 35, 36, 37, 38, 39, 40, 41, 42, 44, 45, 46, 47, 48, 2004, 2005, 2006, 2007, 2008, 2009, 2010] φ ψ13 := fr_tr (fr_rf) hF13 (by decide)
      have e13 := e2_5.trans (bnd_e hE13)
      refine ⟨by omega, ?_⟩
      exact hQ z13 ψ13 hI13 hG13 ⟨by omega, by omega⟩ e13
    · skip
      have e2_6 := (((((((e1a).trans (if_neg (by omega))).trans (if_neg (by omega))).trans (if_neg (by omega))).trans (if_neg (by omega))).trans (if_neg (by omega))).trans (if_neg (by omega))).trans (if_pos q2)
      refine sf_58_182 (φ := φ) hI  (fun z15 ψ15 hI15 hF15 hp15 hE15 => ⟨rfl, z15, rfl, ?_⟩)
      have hG15 : Fr [32, 33, 34, 35, 36, 37, 38, 39, 40, 41, 42, 44, 45, 46, 47, 48, 2004, 2005, 2006, 2007, 2008, 2009, 2010] φ ψ15 := fr_tr (fr_rf) hF15 (by decide)
      have e15 := e2_6.trans (bnd_e hE15)
      refine ⟨by omega, ?_⟩
      exact hQ z15 ψ15 hI15 hG15 ⟨by omega, by omega⟩ e15
    · skip
      have e2_7 := (((((((e1a).trans (if_neg (by omega))).trans (if_neg (by omega))).trans (if_neg (by omega))).trans (if_neg (by omega))).trans (if_neg (by omega))).trans (if_neg (by omega))).trans (if_neg (by omega))
      refine sf_37_1 (φ := φ) hI (by omega) (by omega) (fun z17 ψ17 hI17 hF17 hp17 hE17 => ⟨rfl, z17, rfl, ?_⟩)
      have hG17 : Fr [32, 33, 34, 35, 36, 37, 38, 39, 40, 41, 42, 44, 45, 46, 47, 48, 2004, 2005, 2006, 2007, 2008, 2009, 2010] φ ψ17 := fr_tr (fr_rf) hF17 (by decide)
      have e17 := e2_7.trans (bnd_e hE17)
      refine ⟨by omega, ?_⟩
      exact hQ z17 ψ17 hI17 hG17 ⟨by omega, by omega⟩ e17
  · skip
    have e1b := e0.trans (if_neg q1)
    refine sf_37_1 (φ := φ) hI (by omega) (by omega) (fun z19 ψ19 hI19 hF19 hp19 hE19 => ⟨rfl, z19, rfl, ?_⟩)
    have hG19 : Fr [32, 33, 34, 35, 36, 37, 38, 39, 40, 41, 42, 44, 45, 46, 47, 48, 2004, 2005, 2006, 2007, 2008, 2009, 2010] φ ψ19 := fr_tr (fr_rf) hF19 (by decide)
    have e19 := e1b.trans (bnd_e hE19)
    refine ⟨by omega, ?_⟩
    exact hQ z19 ψ19 hI19 hG19 ⟨by omega, by omega⟩ e19
theorem sf_25_182_v26 {sc : List Int} {d : Nat} {φ : hf_F} {x : Nat} {Q : Option jm_V → hf_F → Nat → Prop} {L : jm_L} {l1 : Int} (g0 : jm_get L 0 = some (2, 182)) (g1 : jm_get L 1 = some (0, l1))
    (H : hi l1 ∧ hi 940 ∧ (940 ≤ l1 → Q (some (0, l1)) φ x) ∧ (¬ 940 ≤ l1 → hi (φ 1 5) ∧ ((φ 1 5) = 0 → Q (some (0, l1)) φ x) ∧ (¬ (φ 1 5) = 0 → hw sc (d + 5) 36 0 [(0, (2, 182))] [] φ x (fun r ψ5 y5 => y5 = x ∧ (∃ z5 : Int, r = some (0, z5) ∧ (hi z5 ∧ (z5 = 0 → Q (some (0, (-1 : Int))) ψ5 x) ∧ (¬ z5 = 0 → hw sc (d + 5) 60 0 [(0, (2, 1)), (1, (0, 59))] [] ψ5 x (fun r ψ8 y8 => y8 = x ∧ (∃ z8 : Int, r = some (0, z8) ∧ (hi z8 ∧ (¬ z8 = 0 → hw sc (d + 6) 25 26 (jm_st1 L 1 (0, l1 + 1)) [] ψ8 x Q) ∧ (¬ (¬ z8 = 0) → Q (some (0, (-1 : Int))) ψ8 x))))))))))) :
    hw sc (d + 6) 25 26 L [] φ x Q := by
  refine hw_ld (b := 1) (e := 0) (by decide +kernel) g1 ?_
  refine hw_k (c := 940) (b := 2) (e := 3) (by decide +kernel) ?_
  obtain ⟨hz1, hy1, ht1, hf1⟩ := H
  refine hw_if2 (a0 := 0) (b := 3) (e := 70) (by decide +kernel) hz1 hy1 (fun q => ?_) (fun q => ?_)
  · have H := ht1 q
    refine hw_ld (b := 1) (e := 0) (by decide +kernel) g1 ?_
    exact hw_ret (a0 := 0) (e := 0) (by decide +kernel) (Or.inl rfl) H
  · have H := hf1 q
    refine hw_ald (b := 0) (e := 0) (by decide +kernel) g0 (by decide) ?_
    refine hr_gr (w := 1) (b := 7) (e := 0) 182 rfl (by decide +kernel) ?_
    refine hr_gi (w := φ 1 5) (b := 1) (e := 5) 1 rfl (by decide +kernel) rfl ?_
    obtain ⟨hz3, ht3, hf3⟩ := H
    refine hw_if (a0 := 0) (b := 0) (e := 70) (by decide +kernel) hz3 (fun q => ?_) (fun q => ?_)
    · have H := ht3 q
      refine hw_ld (b := 1) (e := 0) (by decide +kernel) g1 ?_
      exact hw_ret (a0 := 0) (e := 0) (by decide +kernel) (Or.inl rfl) H
    · have H := hf3 q
      refine hw_ald (b := 0) (e := 0) (by decide +kernel) g0 (by decide) ?_
      refine hr_call (a0 := 17) (b := 36) (e := 1) (nl := 1) (As := []) (R := []) 182 rfl (by decide +kernel) rfl rfl (Nat.le_of_ble_eq_true rfl) (Nat.le_of_ble_eq_true rfl) ?_
      refine hw_mono H ?_
      rintro r ψ5 y5 ⟨hyx, z5, hr, H⟩
      subst hyx
      subst hr
      refine ⟨hne0, ?_⟩
      show hw sc (d + 6) 25 47 L [(0, z5)] ψ5 y5 Q
      obtain ⟨hz6, ht6, hf6⟩ := H
      refine hw_if (a0 := 0) (b := 0) (e := 62) (by decide +kernel) hz6 (fun q => ?_) (fun q => ?_)
      · have H := ht6 q
        refine hw_k (c := (-1 : Int)) (b := 0) (e := 1) (by decide +kernel) ?_
        exact hw_ret (a0 := 0) (e := 0) (by decide +kernel) (Or.inl rfl) H
      · have H := hf6 q
        refine hw_ald (b := 0) (e := 0) (by decide +kernel) g0 (by decide) ?_
        refine hr_gr (w := 1) (b := 7) (e := 0) 182 rfl (by decide +kernel) ?_
        refine hw_k (c := 59) (b := 1) (e := 2) (by decide +kernel) ?_
        refine hr_call (a0 := 11) (b := 60) (e := 2) (nl := 2) (As := [(0, 59)]) (R := []) 1 rfl (by decide +kernel) rfl rfl (Nat.le_of_ble_eq_true rfl) (Nat.le_of_ble_eq_true rfl) ?_
        refine hw_mono H ?_
        rintro r ψ8 y8 ⟨hyx, z8, hr, H⟩
        subst hyx
        subst hr
        refine ⟨hne0, ?_⟩
        show hw sc (d + 6) 25 59 L [(0, z8)] ψ8 y8 Q
        obtain ⟨hz9, ht9, hf9⟩ := H
        refine hw_if (a0 := 0) (b := 1) (e := 64) (by decide +kernel) hz9 (fun q => ?_) (fun q => ?_)
        · have H := ht9 q
          refine hw_inc (L' := (jm_st1 L 1 (0, l1 + 1))) (c := 1) (b := 1) (e := 0) (by decide +kernel) g1 rfl ?_
          refine hw_goto (a0 := 0) (b := 0) (e := 26) (by decide +kernel) ?_
          exact H
        · have H := hf9 q
          refine hw_k (c := (-1 : Int)) (b := 0) (e := 1) (by decide +kernel) ?_
          exact hw_ret (a0 := 0) (e := 0) (by decide +kernel) (Or.inl rfl) H
theorem sf_25_182_l26 {sc : List Int} {d x : Nat} {Q : Option jm_V → hf_F → Nat → Prop} : ∀ (n : Nat) (φ : hf_F) (L : jm_L) (l1 : Int), jm_get L 0 = some (2, 182) → jm_get L 1 = some (0, l1) → Inv φ → 940 - l1 < (n : Int) → 0 ≤ l1 → l1 ≤ 940 → (∀ (r : Int) (ψ : hf_F), Inv ψ → Fr [32, 33, 34, 35, 36, 37, 38, 39, 40, 41, 42, 44, 45, 46, 47, 48, 49, 50, 51, 2003, 2004, 2005, 2006, 2007, 2008, 2009, 2010, 44000, 44001, 44002, 44003, 44004, 44005] φ ψ → (-1 : Int) ≤ r ∧ r ≤ 940 → F_RideText_readAll_182_l26 n φ l1 = (r, ψ) → Q (some (0, r)) ψ x) → hw sc (d + 6) 25 26 L [] φ x Q := by
  intro n
  induction n with
  | zero =>
    intro φ L l1 g0 g1 hI hM b1a b1b hQ
    exfalso
    omega
  | succ n ih =>
    intro φ L l1 g0 g1 hI hM b1a b1b hQ
    refine sf_25_182_v26 g0 g1 ?_
    have e0 := F_RideText_readAll_182_l26_s (φ := φ) (l1 := l1) n
    refine ⟨by unfold hi; omega, by unfold hi; omega, fun q1 => ?_, fun q1 => ?_⟩
    · skip
      have e1a := e0.trans (if_pos q1)
      exact hQ l1 φ hI (fr_rf) ⟨by omega, by omega⟩ e1a
    · skip
      have e1b := e0.trans (if_neg q1)
      have f1 := iv_at (a := 1) (k := 5) (lo := 0) (u := 5) hI (by decide +kernel)
      refine ⟨by unfold hi; omega, fun q3 => ?_, fun q3 => ?_⟩
      · skip
        have e3a := e1b.trans (if_pos q3)
        exact hQ l1 φ hI (fr_rf) ⟨by omega, by omega⟩ e3a
      · skip
        have e3b := e1b.trans (if_neg q3)
        refine sf_36_182 (φ := φ) hI  (fun z5 ψ5 hI5 hF5 hp5 hE5 => ⟨rfl, z5, rfl, ?_⟩)
        have hG5 : Fr [32, 33, 34, 35, 36, 37, 38, 39, 40, 41, 42, 44, 45, 46, 47, 48, 49, 50, 51, 2003, 2004, 2005, 2006, 2007, 2008, 2009, 2010, 44000, 44001, 44002, 44003, 44004, 44005] φ ψ5 := fr_tr (fr_rf) hF5 (by decide)
        have e5 := e3b.trans (bnd_e hE5)
        refine ⟨by unfold hi; omega, fun q6 => ?_, fun q6 => ?_⟩
        · skip
          have e6a := e5.trans (if_pos q6)
          exact hQ (-1 : Int) ψ5 hI5 hG5 ⟨by omega, by omega⟩ e6a
        · skip
          have e6b := e5.trans (if_neg q6)
          refine sf_60_1 (φ := ψ5) hI5 (by omega) (by omega) (fun z8 ψ8 hI8 hF8 hp8 hE8 => ⟨rfl, z8, rfl, ?_⟩)
          have hG8 : Fr [32, 33, 34, 35, 36, 37, 38, 39, 40, 41, 42, 44, 45, 46, 47, 48, 49, 50, 51, 2003, 2004, 2005, 2006, 2007, 2008, 2009, 2010, 44000, 44001, 44002, 44003, 44004, 44005] φ ψ8 := fr_tr hG5 hF8 (by decide)
          have e8 := e6b.trans (bnd_e hE8)
          refine ⟨by unfold hi; omega, fun q9 => ?_, fun q9 => ?_⟩
          · skip
            have e9a := e8.trans (if_pos q9)
            exact ih ψ8 (jm_st1 L 1 (0, l1 + 1)) (l1 + 1) (get_st1 g0 (by decide) (fun q => tg2 q.2)) get_st1e hI8 (by omega) (by omega) (by omega) (fun rr χ hIχ hFχ hpχ hEχ => hQ rr χ hIχ (fr_tr hG8 hFχ (by decide)) hpχ (e9a.trans hEχ))
          · skip
            have e9b := e8.trans (if_neg q9)
            exact hQ (-1 : Int) ψ8 hI8 hG8 ⟨by omega, by omega⟩ e9b
theorem sf_25_182_v {sc : List Int} {d : Nat} {φ : hf_F} {x : Nat} {Q : Option jm_V → hf_F → Nat → Prop} 
    (H : hw sc (d + 5) 26 0 [(0, (2, 31))] [] φ x (fun r ψ1 y1 => y1 = x ∧ (r = none ∧ (hw sc (d + 5) 27 0 [(0, (2, 43))] [] ψ1 x (fun r ψ2 y2 => y2 = x ∧ (r = none ∧ (hw sc (d + 5) 28 0 [(0, (2, 1)), (1, (0, 900))] [] ψ2 x (fun r ψ3 y3 => y3 = x ∧ (r = none ∧ (hw sc (d + 6) 25 26 (jm_st1 [(0, (2, 182))] 1 (0, 0)) [] ψ3 x Q)))))))))) :
    hw sc (d + 6) 25 0 [(0, (2, 182))] [] φ x Q := by
  refine hw_ald (b := 0) (e := 0) (by decide +kernel) rfl (by decide) ?_
  refine hr_gr (w := 31) (b := 7) (e := 1) 182 rfl (by decide +kernel) ?_
  refine hr_call (a0 := 13) (b := 26) (e := 1) (nl := 1) (As := []) (R := []) 31 rfl (by decide +kernel) rfl rfl (Nat.le_of_ble_eq_true rfl) (Nat.le_of_ble_eq_true rfl) ?_
  refine hw_mono H ?_
  rintro r ψ1 y1 ⟨hyx, hr, H⟩
  subst hyx
  subst hr
  refine ⟨hnen, ?_⟩
  show hw sc (d + 6) 25 7 [(0, (2, 182))] [] ψ1 y1 Q
  refine hw_ald (b := 0) (e := 0) (by decide +kernel) rfl (by decide) ?_
  refine hr_gr (w := 43) (b := 7) (e := 2) 182 rfl (by decide +kernel) ?_
  refine hr_call (a0 := 14) (b := 27) (e := 1) (nl := 1) (As := []) (R := []) 43 rfl (by decide +kernel) rfl rfl (Nat.le_of_ble_eq_true rfl) (Nat.le_of_ble_eq_true rfl) ?_
  refine hw_mono H ?_
  rintro r ψ2 y2 ⟨hyx, hr, H⟩
  subst hyx
  subst hr
  refine ⟨hnen, ?_⟩
  show hw sc (d + 6) 25 14 [(0, (2, 182))] [] ψ2 y2 Q
  refine hw_ald (b := 0) (e := 0) (by decide +kernel) rfl (by decide) ?_
  refine hr_gr (w := 1) (b := 7) (e := 0) 182 rfl (by decide +kernel) ?_
  refine hw_k (c := 900) (b := 2) (e := 3) (by decide +kernel) ?_
  refine hr_call (a0 := 11) (b := 28) (e := 2) (nl := 2) (As := [(0, 900)]) (R := []) 1 rfl (by decide +kernel) rfl rfl (Nat.le_of_ble_eq_true rfl) (Nat.le_of_ble_eq_true rfl) ?_
  refine hw_mono H ?_
  rintro r ψ3 y3 ⟨hyx, hr, H⟩
  subst hyx
  subst hr
  refine ⟨hnen, ?_⟩
  show hw sc (d + 6) 25 24 [(0, (2, 182))] [] ψ3 y3 Q
  refine hw_k (c := 0) (b := 0) (e := 1) (by decide +kernel) ?_
  refine hw_st (L' := (jm_st1 [(0, (2, 182))] 1 (0, 0))) (b := 1) (e := 0) (by decide +kernel) rfl ?_
  exact H
theorem sf_25_182 {sc : List Int} {d : Nat} {φ : hf_F} {x : Nat} {Q : Option jm_V → hf_F → Nat → Prop}  (hI : Inv φ)  (hQ : ∀ (r : Int) (ψ : hf_F), Inv ψ → Fr [32, 33, 34, 35, 36, 37, 38, 39, 40, 41, 42, 44, 45, 46, 47, 48, 49, 50, 51, 2003, 2004, 2005, 2006, 2007, 2008, 2009, 2010, 44000, 44001, 44002, 44003, 44004, 44005] φ ψ → (-1 : Int) ≤ r ∧ r ≤ 940 → F_RideText_readAll_182 φ = (r, ψ) → Q (some (0, r)) ψ x) : hw sc (d + 6) 25 0 [(0, (2, 182))] [] φ x Q := by
  apply sf_25_182_v
  have e0 : F_RideText_readAll_182 φ = _ := rfl
  refine sf_26_31 (φ := φ) hI  (fun ψ1 hI1 hF1 hE1 => ⟨rfl, rfl, ?_⟩)
  have hG1 : Fr [32, 33, 34, 35, 36, 37, 38, 39, 40, 41, 42, 44, 45, 46, 47, 48, 49, 50, 51, 2003, 2004, 2005, 2006, 2007, 2008, 2009, 2010, 44000, 44001, 44002, 44003, 44004, 44005] φ ψ1 := fr_tr (fr_rf) hF1 (by decide)
  have e1 := e0.trans (bnv_e hE1)
  refine sf_27_43 (φ := ψ1) hI1  (fun ψ2 hI2 hF2 hE2 => ⟨rfl, rfl, ?_⟩)
  have hG2 : Fr [32, 33, 34, 35, 36, 37, 38, 39, 40, 41, 42, 44, 45, 46, 47, 48, 49, 50, 51, 2003, 2004, 2005, 2006, 2007, 2008, 2009, 2010, 44000, 44001, 44002, 44003, 44004, 44005] φ ψ2 := fr_tr hG1 hF2 (by decide)
  have e2 := e1.trans (bnv_e hE2)
  refine sf_28_1 (φ := ψ2) hI2 (by omega) (by omega) (fun ψ3 hI3 hF3 hE3 => ⟨rfl, rfl, ?_⟩)
  have hG3 : Fr [32, 33, 34, 35, 36, 37, 38, 39, 40, 41, 42, 44, 45, 46, 47, 48, 49, 50, 51, 2003, 2004, 2005, 2006, 2007, 2008, 2009, 2010, 44000, 44001, 44002, 44003, 44004, 44005] φ ψ3 := fr_tr hG2 hF3 (by decide)
  have e3 := e2.trans (bnv_e hE3)
  exact sf_25_182_l26 ((940 - 0 : Int).toNat + 1) ψ3 (jm_st1 [(0, (2, 182))] 1 (0, 0)) 0 (get_st1 rfl (by decide) (fun q => tg2 q.2)) get_st1e hI3 (by omega) (by omega) (by omega) (fun rr χ hIχ hFχ hpχ hEχ => hQ rr χ hIχ (fr_tr hG3 hFχ (by decide)) hpχ (e3.trans hEχ))
theorem sf_64_4_30_v {sc : List Int} {d : Nat} {φ : hf_F} {x : Nat} {Q : Option jm_V → hf_F → Nat → Prop} 
    (H : hw sc d 65 0 [(0, (2, 5)), (1, (2, 31))] [] φ x (fun r ψ1 y1 => y1 = x ∧ (r = none ∧ (hw sc d 66 0 [(0, (2, 17)), (1, (2, 43))] [] ψ1 x (fun r ψ2 y2 => y2 = x ∧ (r = none ∧ (hw sc d 67 0 [(0, (2, 26)), (1, (2, 52))] [] ψ2 x (fun r ψ3 y3 => y3 = x ∧ (r = none ∧ (Q none ψ3 x)))))))))) :
    hw sc (d + 1) 64 0 [(0, (2, 4)), (1, (2, 30))] [] φ x Q := by
  refine hw_ald (b := 0) (e := 0) (by decide +kernel) rfl (by decide) ?_
  refine hr_gr (w := 5) (b := 2) (e := 0) 4 rfl (by decide +kernel) ?_
  refine hw_ald (b := 1) (e := 0) (by decide +kernel) rfl (by decide) ?_
  refine hr_gr (w := 31) (b := 2) (e := 0) 30 rfl (by decide +kernel) ?_
  refine hr_call (a0 := 13) (b := 65) (e := 2) (nl := 2) (As := [(2, 31)]) (R := []) 5 rfl (by decide +kernel) rfl rfl (Nat.le_of_ble_eq_true rfl) (Nat.le_of_ble_eq_true rfl) ?_
  refine hw_mono H ?_
  rintro r ψ1 y1 ⟨hyx, hr, H⟩
  subst hyx
  subst hr
  refine ⟨hnen, ?_⟩
  show hw sc (d + 1) 64 11 [(0, (2, 4)), (1, (2, 30))] [] ψ1 y1 Q
  refine hw_ald (b := 0) (e := 0) (by decide +kernel) rfl (by decide) ?_
  refine hr_gr (w := 17) (b := 2) (e := 1) 4 rfl (by decide +kernel) ?_
  refine hw_ald (b := 1) (e := 0) (by decide +kernel) rfl (by decide) ?_
  refine hr_gr (w := 43) (b := 2) (e := 1) 30 rfl (by decide +kernel) ?_
  refine hr_call (a0 := 14) (b := 66) (e := 2) (nl := 2) (As := [(2, 43)]) (R := []) 17 rfl (by decide +kernel) rfl rfl (Nat.le_of_ble_eq_true rfl) (Nat.le_of_ble_eq_true rfl) ?_
  refine hw_mono H ?_
  rintro r ψ2 y2 ⟨hyx, hr, H⟩
  subst hyx
  subst hr
  refine ⟨hnen, ?_⟩
  show hw sc (d + 1) 64 22 [(0, (2, 4)), (1, (2, 30))] [] ψ2 y2 Q
  refine hw_ald (b := 0) (e := 0) (by decide +kernel) rfl (by decide) ?_
  refine hr_gr (w := 26) (b := 2) (e := 2) 4 rfl (by decide +kernel) ?_
  refine hw_ald (b := 1) (e := 0) (by decide +kernel) rfl (by decide) ?_
  refine hr_gr (w := 52) (b := 2) (e := 2) 30 rfl (by decide +kernel) ?_
  refine hr_call (a0 := 15) (b := 67) (e := 2) (nl := 2) (As := [(2, 52)]) (R := []) 26 rfl (by decide +kernel) rfl rfl (Nat.le_of_ble_eq_true rfl) (Nat.le_of_ble_eq_true rfl) ?_
  refine hw_mono H ?_
  rintro r ψ3 y3 ⟨hyx, hr, H⟩
  subst hyx
  subst hr
  refine ⟨hnen, ?_⟩
  show hw sc (d + 1) 64 33 [(0, (2, 4)), (1, (2, 30))] [] ψ3 y3 Q
  exact hw_vret (a0 := 0) (e := 0) (by decide +kernel) H
theorem sf_64_4_30 {sc : List Int} {d : Nat} {φ : hf_F} {x : Nat} {Q : Option jm_V → hf_F → Nat → Prop}  (hI : Inv φ)  (hQ : ∀ ψ : hf_F, Inv ψ → Fr [6, 7, 8, 9, 10, 11, 12, 13, 14, 15, 16, 18, 19, 20, 21, 22, 23, 24, 25, 27, 28, 29, 18000, 18001, 18002, 18003, 18004, 18005, 27003, 27004, 27005] φ ψ → F_Scene_copyFrom_4_30 φ = ψ → Q none ψ x) : hw sc (d + 1) 64 0 [(0, (2, 4)), (1, (2, 30))] [] φ x Q := by
  apply sf_64_4_30_v
  have e0 : F_Scene_copyFrom_4_30 φ = _ := rfl
  refine sf_65_5_31 (φ := φ) hI  (fun ψ1 hI1 hF1 hE1 => ⟨rfl, rfl, ?_⟩)
  have hG1 : Fr [6, 7, 8, 9, 10, 11, 12, 13, 14, 15, 16, 18, 19, 20, 21, 22, 23, 24, 25, 27, 28, 29, 18000, 18001, 18002, 18003, 18004, 18005, 27003, 27004, 27005] φ ψ1 := fr_tr (fr_rf) hF1 (by decide)
  have e1 := e0.trans (bnv_e hE1)
  refine sf_66_17_43 (φ := ψ1) hI1  (fun ψ2 hI2 hF2 hE2 => ⟨rfl, rfl, ?_⟩)
  have hG2 : Fr [6, 7, 8, 9, 10, 11, 12, 13, 14, 15, 16, 18, 19, 20, 21, 22, 23, 24, 25, 27, 28, 29, 18000, 18001, 18002, 18003, 18004, 18005, 27003, 27004, 27005] φ ψ2 := fr_tr hG1 hF2 (by decide)
  have e2 := e1.trans (bnv_e hE2)
  refine sf_67_26_52 (φ := ψ2) hI2  (fun ψ3 hI3 hF3 hE3 => ⟨rfl, rfl, ?_⟩)
  have hG3 : Fr [6, 7, 8, 9, 10, 11, 12, 13, 14, 15, 16, 18, 19, 20, 21, 22, 23, 24, 25, 27, 28, 29, 18000, 18001, 18002, 18003, 18004, 18005, 27003, 27004, 27005] φ ψ3 := fr_tr hG2 hF3 (by decide)
  have e3 := e2.trans (bnv_e hE3)
  exact hQ ψ3 hI3 hG3 e3
theorem sf_24_0_v {sc : List Int} {d : Nat} {φ : hf_F} {x : Nat} {Q : Option jm_V → hf_F → Nat → Prop} 
    (H : hw sc (d + 6) 25 0 [(0, (2, 182))] [] φ x (fun r ψ1 y1 => y1 = x ∧ (∃ z1 : Int, r = some (0, z1) ∧ (hw sc (d + 6) 62 0 [(0, (2, 0))] [] ψ1 x (fun r ψ2 y2 => y2 = x ∧ (r = none ∧ (hi z1 ∧ hi (-1 : Int) ∧ (¬ z1 = (-1 : Int) → hw sc (d + 6) 63 0 [(0, (2, 52))] [] ψ2 x (fun r ψ4 y4 => y4 = x ∧ (r = none ∧ (hw sc (d + 6) 64 0 [(0, (2, 4)), (1, (2, 30))] [] ψ4 x (fun r ψ5 y5 => y5 = x ∧ (r = none ∧ (Q (some (0, z1)) (hf_up ψ5 108 1 0) x))))))) ∧ (¬ (¬ z1 = (-1 : Int)) → Q (some (0, (-1 : Int) - (ψ2 1 10))) ψ2 x)))))))) :
    hw sc (d + 7) 24 0 [(0, (2, 0))] [] φ x Q := by
  refine hw_ald (b := 0) (e := 0) (by decide +kernel) rfl (by decide) ?_
  refine hr_gr (w := 182) (b := 0) (e := 6) 0 rfl (by decide +kernel) ?_
  refine hr_call (a0 := 17) (b := 25) (e := 1) (nl := 2) (As := []) (R := []) 182 rfl (by decide +kernel) rfl rfl (Nat.le_of_ble_eq_true rfl) (Nat.le_of_ble_eq_true rfl) ?_
  refine hw_mono H ?_
  rintro r ψ1 y1 ⟨hyx, z1, hr, H⟩
  subst hyx
  subst hr
  refine ⟨hne0, ?_⟩
  show hw sc (d + 7) 24 7 [(0, (2, 0))] [(0, z1)] ψ1 y1 Q
  refine hw_st (L' := (jm_st1 [(0, (2, 0))] 1 (0, z1))) (b := 1) (e := 0) (by decide +kernel) rfl ?_
  refine hw_ald (b := 0) (e := 0) (by decide +kernel) (get_st1 rfl (by decide) (fun q => tg2 q.2)) (by decide) ?_
  refine hr_call (a0 := 10) (b := 62) (e := 1) (nl := 1) (As := []) (R := []) 0 rfl (by decide +kernel) rfl rfl (Nat.le_of_ble_eq_true rfl) (Nat.le_of_ble_eq_true rfl) ?_
  refine hw_mono H ?_
  rintro r ψ2 y2 ⟨hyx, hr, H⟩
  subst hyx
  subst hr
  refine ⟨hnen, ?_⟩
  show hw sc (d + 7) 24 12 (jm_st1 [(0, (2, 0))] 1 (0, z1)) [] ψ2 y2 Q
  refine hw_ld (b := 1) (e := 0) (by decide +kernel) get_st1e ?_
  refine hw_k (c := (-1 : Int)) (b := 0) (e := 1) (by decide +kernel) ?_
  obtain ⟨hz3, hy3, ht3, hf3⟩ := H
  refine hw_if2 (a0 := 0) (b := 1) (e := 27) (by decide +kernel) hz3 hy3 (fun q => ?_) (fun q => ?_)
  · have H := ht3 q
    refine hw_ald (b := 0) (e := 0) (by decide +kernel) (get_st1 rfl (by decide) (fun q => tg2 q.2)) (by decide) ?_
    refine hr_gr (w := 30) (b := 0) (e := 2) 0 rfl (by decide +kernel) ?_
    refine hr_gr (w := 52) (b := 2) (e := 2) 30 rfl (by decide +kernel) ?_
    refine hr_call (a0 := 15) (b := 63) (e := 1) (nl := 1) (As := []) (R := []) 52 rfl (by decide +kernel) rfl rfl (Nat.le_of_ble_eq_true rfl) (Nat.le_of_ble_eq_true rfl) ?_
    refine hw_mono H ?_
    rintro r ψ4 y4 ⟨hyx, hr, H⟩
    subst hyx
    subst hr
    refine ⟨hnen, ?_⟩
    show hw sc (d + 7) 24 37 (jm_st1 [(0, (2, 0))] 1 (0, z1)) [] ψ4 y4 Q
    refine hw_ald (b := 0) (e := 0) (by decide +kernel) (get_st1 rfl (by decide) (fun q => tg2 q.2)) (by decide) ?_
    refine hr_gr (w := 4) (b := 0) (e := 1) 0 rfl (by decide +kernel) ?_
    refine hw_ald (b := 0) (e := 0) (by decide +kernel) (get_st1 rfl (by decide) (fun q => tg2 q.2)) (by decide) ?_
    refine hr_gr (w := 30) (b := 0) (e := 2) 0 rfl (by decide +kernel) ?_
    refine hr_call (a0 := 12) (b := 64) (e := 2) (nl := 2) (As := [(2, 30)]) (R := []) 4 rfl (by decide +kernel) rfl rfl (Nat.le_of_ble_eq_true rfl) (Nat.le_of_ble_eq_true rfl) ?_
    refine hw_mono H ?_
    rintro r ψ5 y5 ⟨hyx, hr, H⟩
    subst hyx
    subst hr
    refine ⟨hnen, ?_⟩
    show hw sc (d + 7) 24 48 (jm_st1 [(0, (2, 0))] 1 (0, z1)) [] ψ5 y5 Q
    refine hw_ald (b := 0) (e := 0) (by decide +kernel) (get_st1 rfl (by decide) (fun q => tg2 q.2)) (by decide) ?_
    refine hr_gr (w := 108) (b := 0) (e := 5) 0 rfl (by decide +kernel) ?_
    refine hw_k (c := 0) (b := 0) (e := 1) (by decide +kernel) ?_
    refine hr_pi (b := 6) (e := 1) 108 rfl (by decide +kernel) ?_
    refine hw_ld (b := 1) (e := 0) (by decide +kernel) get_st1e ?_
    exact hw_ret (a0 := 0) (e := 0) (by decide +kernel) (Or.inl rfl) H
  · have H := hf3 q
    refine hw_k (c := (-1 : Int)) (b := 0) (e := 1) (by decide +kernel) ?_
    refine hw_ald (b := 0) (e := 0) (by decide +kernel) (get_st1 rfl (by decide) (fun q => tg2 q.2)) (by decide) ?_
    refine hr_gr (w := 1) (b := 0) (e := 0) 0 rfl (by decide +kernel) ?_
    refine hr_gi (w := ψ2 1 10) (b := 1) (e := 10) 1 rfl (by decide +kernel) rfl ?_
    refine hw_bin (w := (-1 : Int) - (ψ2 1 10)) (a0 := 0) (b := 1) (e := 0) (by decide +kernel) rfl ?_
    exact hw_ret (a0 := 0) (e := 0) (by decide +kernel) (Or.inl rfl) H
theorem sf_24_0 {sc : List Int} {d : Nat} {φ : hf_F} {x : Nat} {Q : Option jm_V → hf_F → Nat → Prop}  (hI : Inv φ)  (hQ : ∀ (r : Int) (ψ : hf_F), Inv ψ → Fr [6, 7, 8, 9, 10, 11, 12, 13, 14, 15, 16, 18, 19, 20, 21, 22, 23, 24, 25, 27, 28, 29, 32, 33, 34, 35, 36, 37, 38, 39, 40, 41, 42, 44, 45, 46, 47, 48, 49, 50, 51, 1012, 2002, 2003, 2004, 2005, 2006, 2007, 2008, 2009, 2010, 18000, 18001, 18002, 18003, 18004, 18005, 27003, 27004, 27005, 44000, 44001, 44002, 44003, 44004, 44005, 53003, 53004, 53005, 109001] φ ψ → True ∧ (ψ 1 2 = 0) → F_RideLaws_ride_0 φ = (r, ψ) → Q (some (0, r)) ψ x) : hw sc (d + 7) 24 0 [(0, (2, 0))] [] φ x Q := by
  apply sf_24_0_v
  have e0 : F_RideLaws_ride_0 φ = _ := rfl
  refine sf_25_182 (φ := φ) hI  (fun z1 ψ1 hI1 hF1 hp1 hE1 => ⟨rfl, z1, rfl, ?_⟩)
  have hG1 : Fr [6, 7, 8, 9, 10, 11, 12, 13, 14, 15, 16, 18, 19, 20, 21, 22, 23, 24, 25, 27, 28, 29, 32, 33, 34, 35, 36, 37, 38, 39, 40, 41, 42, 44, 45, 46, 47, 48, 49, 50, 51, 1012, 2002, 2003, 2004, 2005, 2006, 2007, 2008, 2009, 2010, 18000, 18001, 18002, 18003, 18004, 18005, 27003, 27004, 27005, 44000, 44001, 44002, 44003, 44004, 44005, 53003, 53004, 53005, 109001] φ ψ1 := fr_tr (fr_rf) hF1 (by decide)
  have e1 := e0.trans (bnd_e hE1)
  refine sf_62_0 (φ := ψ1) hI1  (fun ψ2 hI2 hF2 hV2 hE2 => ⟨rfl, rfl, ?_⟩)
  have hG2 : Fr [6, 7, 8, 9, 10, 11, 12, 13, 14, 15, 16, 18, 19, 20, 21, 22, 23, 24, 25, 27, 28, 29, 32, 33, 34, 35, 36, 37, 38, 39, 40, 41, 42, 44, 45, 46, 47, 48, 49, 50, 51, 1012, 2002, 2003, 2004, 2005, 2006, 2007, 2008, 2009, 2010, 18000, 18001, 18002, 18003, 18004, 18005, 27003, 27004, 27005, 44000, 44001, 44002, 44003, 44004, 44005, 53003, 53004, 53005, 109001] φ ψ2 := fr_tr hG1 hF2 (by decide)
  have f1 := iv_at (a := 1) (k := 2) (lo := 0) (u := 940) hI2 (by decide +kernel)
  have e2 := e1.trans (bnv_e hE2)
  refine ⟨by unfold hi; omega, by unfold hi; omega, fun q3 => ?_, fun q3 => ?_⟩
  · skip
    have e3a := e2.trans (if_pos q3)
    refine sf_63_52 (φ := ψ2) hI2  (fun ψ4 hI4 hF4 hE4 => ⟨rfl, rfl, ?_⟩)
    have hG4 : Fr [6, 7, 8, 9, 10, 11, 12, 13, 14, 15, 16, 18, 19, 20, 21, 22, 23, 24, 25, 27, 28, 29, 32, 33, 34, 35, 36, 37, 38, 39, 40, 41, 42, 44, 45, 46, 47, 48, 49, 50, 51, 1012, 2002, 2003, 2004, 2005, 2006, 2007, 2008, 2009, 2010, 18000, 18001, 18002, 18003, 18004, 18005, 27003, 27004, 27005, 44000, 44001, 44002, 44003, 44004, 44005, 53003, 53004, 53005, 109001] φ ψ4 := fr_tr hG2 hF4 (by decide)
    have e4 := e3a.trans (bnv_e hE4)
    refine sf_64_4_30 (φ := ψ4) hI4  (fun ψ5 hI5 hF5 hE5 => ⟨rfl, rfl, ?_⟩)
    have hG5 : Fr [6, 7, 8, 9, 10, 11, 12, 13, 14, 15, 16, 18, 19, 20, 21, 22, 23, 24, 25, 27, 28, 29, 32, 33, 34, 35, 36, 37, 38, 39, 40, 41, 42, 44, 45, 46, 47, 48, 49, 50, 51, 1012, 2002, 2003, 2004, 2005, 2006, 2007, 2008, 2009, 2010, 18000, 18001, 18002, 18003, 18004, 18005, 27003, 27004, 27005, 44000, 44001, 44002, 44003, 44004, 44005, 53003, 53004, 53005, 109001] φ ψ5 := fr_tr hG4 hF5 (by decide)
    have e5 := e4.trans (bnv_e hE5)
    have i2 : Inv (hf_up ψ5 108 1 0) := iv_up (lo := 0) (u := 8) hI5 (by decide +kernel) (by omega) (by omega)
    have r2 : Fr [6, 7, 8, 9, 10, 11, 12, 13, 14, 15, 16, 18, 19, 20, 21, 22, 23, 24, 25, 27, 28, 29, 32, 33, 34, 35, 36, 37, 38, 39, 40, 41, 42, 44, 45, 46, 47, 48, 49, 50, 51, 1012, 2002, 2003, 2004, 2005, 2006, 2007, 2008, 2009, 2010, 18000, 18001, 18002, 18003, 18004, 18005, 27003, 27004, 27005, 44000, 44001, 44002, 44003, 44004, 44005, 53003, 53004, 53005, 109001] φ (hf_up ψ5 108 1 0) := fr_up hG5 (by decide)
    have f3 : (hf_up ψ5 108 1 0) 1 2 = ψ5 1 2 := (hf_up_ne (fun q => absurd q.1 (by decide)))
    have f4 := iv_at (a := 1) (k := 2) (lo := 0) (u := 940) hI5 (by decide +kernel)
    have f5 : ψ5 1 2 = ψ4 1 2 := (fr_fd hF5 1 2 (by decide))
    have f6 := iv_at (a := 1) (k := 2) (lo := 0) (u := 940) hI4 (by decide +kernel)
    have f7 : ψ4 1 2 = ψ2 1 2 := (fr_fd hF4 1 2 (by decide))
    exact hQ z1 (hf_up ψ5 108 1 0) i2 r2 ⟨trivial, by omega⟩ e5
  · skip
    have e3b := e2.trans (if_neg q3)
    have f8 := iv_at (a := 1) (k := 10) (lo := 0) (u := 940) hI2 (by decide +kernel)
    have f9 : ψ2 1 10 = ψ1 1 10 := (fr_fd hF2 1 10 (by decide))
    have f10 := iv_at (a := 1) (k := 10) (lo := 0) (u := 940) hI1 (by decide +kernel)
    exact hQ ((-1 : Int) - (ψ2 1 10)) ψ2 hI2 hG2 ⟨trivial, by omega⟩ e3b
theorem sf_81_108_v9 {sc : List Int} {d : Nat} {φ : hf_F} {x : Nat} {Q : Option jm_V → hf_F → Nat → Prop} {L : jm_L} {l1 l2 : Int} (g0 : jm_get L 0 = some (2, 108)) (g1 : jm_get L 1 = some (2, l1)) (g2 : jm_get L 2 = some (0, l2))
    (H : hi l2 ∧ hi 8 ∧ (8 ≤ l2 → 0 ≤ l1 ∧ (0 ≤ (7 : Int) ∧ (7 : Int) < 8 ∧ Bf1 l1 ∧ (Q none (hf_up (hf_up φ 109 7 l1) 108 1 7) x))) ∧ (¬ 8 ≤ l2 → 0 ≤ l2 ∧ l2 < 8 ∧ (0 ≤ (l2 - 1) ∧ (l2 - 1) < 8 ∧ Bf1 (φ 109 ((l2).toNat)) ∧ (hw sc d 81 9 (jm_st1 L 2 (0, l2 + 1)) [] (hf_up φ 109 ((l2 - 1).toNat) (φ 109 ((l2).toNat))) x Q)))) :
    hw sc d 81 9 L [] φ x Q := by
  refine hw_ld (b := 2) (e := 0) (by decide +kernel) g2 ?_
  refine hw_k (c := 8) (b := 1) (e := 2) (by decide +kernel) ?_
  obtain ⟨hz1, hy1, ht1, hf1⟩ := H
  refine hw_if2 (a0 := 0) (b := 3) (e := 35) (by decide +kernel) hz1 hy1 (fun q => ?_) (fun q => ?_)
  · have H := ht1 q
    refine hw_ald (b := 0) (e := 0) (by decide +kernel) g0 (by decide) ?_
    refine hr_gr (w := 109) (b := 6) (e := 0) 108 rfl (by decide +kernel) ?_
    refine hw_k (c := 7) (b := 1) (e := 2) (by decide +kernel) ?_
    obtain ⟨hz2, H⟩ := H
    refine hw_ald (b := 1) (e := 0) (by decide +kernel) g1 hz2 ?_
    obtain ⟨hl3, hu3, hb3, H⟩ := H
    refine hr_asa (a0 := 0) (by decide +kernel) hb3 hl3 hu3 ?_
    refine hw_ald (b := 0) (e := 0) (by decide +kernel) g0 (by decide) ?_
    refine hw_k (c := 7) (b := 1) (e := 2) (by decide +kernel) ?_
    refine hr_pi (b := 6) (e := 1) 108 rfl (by decide +kernel) ?_
    exact hw_vret (a0 := 0) (e := 0) (by decide +kernel) H
  · have H := hf1 q
    refine hw_ald (b := 0) (e := 0) (by decide +kernel) g0 (by decide) ?_
    refine hr_gr (w := 109) (b := 6) (e := 0) 108 rfl (by decide +kernel) ?_
    refine hw_ld (b := 2) (e := 0) (by decide +kernel) g2 ?_
    refine hw_k (c := 1) (b := 0) (e := 1) (by decide +kernel) ?_
    refine hw_bin (w := l2 - 1) (a0 := 0) (b := 1) (e := 0) (by decide +kernel) rfl ?_
    refine hw_ald (b := 0) (e := 0) (by decide +kernel) g0 (by decide) ?_
    refine hr_gr (w := 109) (b := 6) (e := 0) 108 rfl (by decide +kernel) ?_
    refine hw_ld (b := 2) (e := 0) (by decide +kernel) g2 ?_
    obtain ⟨hl5, hu5, H⟩ := H
    refine hr_ala (a0 := 0) (e := 0) (n := 8) (w := φ 109 ((l2).toNat)) 109 rfl (by decide +kernel) hl5 hu5 rfl ?_
    obtain ⟨hl6, hu6, hb6, H⟩ := H
    refine hr_asa (a0 := 0) (by decide +kernel) hb6 hl6 hu6 ?_
    refine hw_inc (L' := (jm_st1 L 2 (0, l2 + 1))) (c := 1) (b := 2) (e := 0) (by decide +kernel) g2 rfl ?_
    refine hw_goto (a0 := 0) (b := 0) (e := 9) (by decide +kernel) ?_
    exact H
theorem sf_81_108_l9 {sc : List Int} {d x : Nat} {Q : Option jm_V → hf_F → Nat → Prop} : ∀ (n : Nat) (φ : hf_F) (L : jm_L) (l1 l2 : Int), jm_get L 0 = some (2, 108) → jm_get L 1 = some (2, l1) → jm_get L 2 = some (0, l2) → Inv φ → 8 - l2 < (n : Int) → 1 ≤ l2 → l2 ≤ 8 → Bf1 l1 → (∀ ψ : hf_F, Inv ψ → Fr [109, 109001] φ ψ → 0 ≤ ψ 108 1 ∧ ψ 108 1 ≤ 7 → F_History_dropOldest_108_l9 n φ l1 l2 = ψ → Q none ψ x) → hw sc d 81 9 L [] φ x Q := by
  intro n
  induction n with
  | zero =>
    intro φ L l1 l2 g0 g1 g2 hI hM b2a b2b hBl1 hQ
    exfalso
    omega
  | succ n ih =>
    intro φ L l1 l2 g0 g1 g2 hI hM b2a b2b hBl1 hQ
    refine sf_81_108_v9 g0 g1 g2 ?_
    have e0 := F_History_dropOldest_108_l9_s (φ := φ) (l1 := l1) (l2 := l2) n
    refine ⟨by unfold hi; omega, by unfold hi; omega, fun q1 => ?_, fun q1 => ?_⟩
    · skip
      have e1a := e0.trans (if_pos q1)
      refine ⟨bf_nn hBl1, ?_⟩
      refine ⟨by omega, by omega, hBl1, ?_⟩
      have i1 : Inv (hf_up φ 109 7 l1) := iv_up9 hI hBl1
      have r1 : Fr [109, 109001] φ (hf_up φ 109 7 l1) := fr_upa (fr_rf) (by decide)
      have i2 : Inv (hf_up (hf_up φ 109 7 l1) 108 1 7) := iv_up (lo := 0) (u := 8) i1 (by decide +kernel) (by omega) (by omega)
      have r2 : Fr [109, 109001] φ (hf_up (hf_up φ 109 7 l1) 108 1 7) := fr_up r1 (by decide)
      exact hQ (hf_up (hf_up φ 109 7 l1) 108 1 7) i2 r2 (by rw [show (hf_up (hf_up φ 109 7 l1) 108 1 7) 108 1 = 7 from hf_up_eq]; constructor <;> omega) e1a
    · skip
      have e1b := e0.trans (if_neg q1)
      refine ⟨by omega, by omega, ?_⟩
      have hB5 : Bf1 (φ 109 ((l2).toNat)) := iv_bf hI (by omega) (by omega)
      refine ⟨by omega, by omega, hB5, ?_⟩
      have i3 : Inv (hf_up φ 109 ((l2 - 1).toNat) (φ 109 ((l2).toNat))) := iv_up9 hI hB5
      have r3 : Fr [109, 109001] φ (hf_up φ 109 ((l2 - 1).toNat) (φ 109 ((l2).toNat))) := fr_upa (fr_rf) (by decide)
      exact ih (hf_up φ 109 ((l2 - 1).toNat) (φ 109 ((l2).toNat))) (jm_st1 L 2 (0, l2 + 1)) l1 (l2 + 1) (get_st1 g0 (by decide) (fun q => absurd q.1 (by decide))) (get_st1 g1 (by decide) (fun q => tg2 q.2)) get_st1e i3 (by omega) (by omega) (by omega) hBl1 (fun χ hIχ hFχ hVχ hEχ => hQ χ hIχ (fr_tr r3 hFχ (by decide)) hVχ (e1b.trans hEχ))
theorem sf_81_108_v {sc : List Int} {d : Nat} {φ : hf_F} {x : Nat} {Q : Option jm_V → hf_F → Nat → Prop} 
    (H : 0 ≤ (0 : Int) ∧ (0 : Int) < 8 ∧ (0 ≤ (φ 109 0) ∧ (hw sc d 81 9 (jm_st1 (jm_st1 [(0, (2, 108))] 1 (2, φ 109 0)) 2 (0, 1)) [] φ x Q))) :
    hw sc d 81 0 [(0, (2, 108))] [] φ x Q := by
  refine hw_ald (b := 0) (e := 0) (by decide +kernel) rfl (by decide) ?_
  refine hr_gr (w := 109) (b := 6) (e := 0) 108 rfl (by decide +kernel) ?_
  refine hw_k (c := 0) (b := 0) (e := 1) (by decide +kernel) ?_
  obtain ⟨hl1, hu1, H⟩ := H
  refine hr_ala (a0 := 0) (e := 0) (n := 8) (w := φ 109 0) 109 rfl (by decide +kernel) hl1 hu1 rfl ?_
  obtain ⟨hz2, H⟩ := H
  refine hw_ast (L' := (jm_st1 [(0, (2, 108))] 1 (2, φ 109 0))) (b := 1) (e := 0) (by decide +kernel) rfl hz2 ?_
  refine hw_k (c := 1) (b := 0) (e := 1) (by decide +kernel) ?_
  refine hw_st (L' := (jm_st1 (jm_st1 [(0, (2, 108))] 1 (2, φ 109 0)) 2 (0, 1))) (b := 2) (e := 0) (by decide +kernel) rfl ?_
  exact H
theorem sf_81_108 {sc : List Int} {d : Nat} {φ : hf_F} {x : Nat} {Q : Option jm_V → hf_F → Nat → Prop}  (hI : Inv φ)  (hQ : ∀ ψ : hf_F, Inv ψ → Fr [109, 109001] φ ψ → 0 ≤ ψ 108 1 ∧ ψ 108 1 ≤ 7 → F_History_dropOldest_108 φ = ψ → Q none ψ x) : hw sc d 81 0 [(0, (2, 108))] [] φ x Q := by
  apply sf_81_108_v
  have e0 : F_History_dropOldest_108 φ = _ := rfl
  refine ⟨by omega, by omega, ?_⟩
  have hB1 : Bf1 (φ 109 0) := hI.1.2 0 (by decide)
  refine ⟨bf_nn hB1, ?_⟩
  exact sf_81_108_l9 ((8 - 1 : Int).toNat + 1) φ (jm_st1 (jm_st1 [(0, (2, 108))] 1 (2, φ 109 0)) 2 (0, 1)) (φ 109 0) 1 (get_st1 (get_st1 rfl (by decide) (fun q => tg2 q.2)) (by decide) (fun q => absurd q.1 (by decide))) (get_st1 get_st1e (by decide) (fun q => tg2 q.2)) get_st1e hI (by omega) (by omega) (by omega) hB1 (fun χ hIχ hFχ hVχ hEχ => hQ χ hIχ (fr_tr (fr_rf) hFχ (by decide)) hVχ (e0.trans hEχ))
theorem sf_66_110_17_v {sc : List Int} {d : Nat} {φ : hf_F} {x : Nat} {Q : Option jm_V → hf_F → Nat → Prop} 
    (H : Q none (hf_cp (hf_cp (hf_cp (hf_cp (hf_cp (hf_cp (hf_cp (hf_cp (hf_up (hf_up (hf_up (hf_up (hf_up (hf_up φ 110 0 (φ 17 0)) 110 1 (φ 17 1)) 110 2 (φ 17 2)) 110 3 (φ 17 3)) 110 4 (φ 17 4)) 110 5 (φ 17 5)) 18 111 8) 19 112 8) 20 113 6) 21 114 6) 22 115 36) 23 116 6) 24 117 6) 25 118 8) x) :
    hw sc d 66 0 [(0, (2, 110)), (1, (2, 17))] [] φ x Q := by
  refine hw_ald (b := 0) (e := 0) (by decide +kernel) rfl (by decide) ?_
  refine hw_ald (b := 1) (e := 0) (by decide +kernel) rfl (by decide) ?_
  refine hr_gi (w := φ 17 0) (b := 4) (e := 0) 17 rfl (by decide +kernel) rfl ?_
  refine hr_pi (b := 4) (e := 0) 110 rfl (by decide +kernel) ?_
  refine hw_ald (b := 0) (e := 0) (by decide +kernel) rfl (by decide) ?_
  refine hw_ald (b := 1) (e := 0) (by decide +kernel) rfl (by decide) ?_
  refine hr_gi (w := φ 17 1) (b := 4) (e := 1) 17 rfl (by decide +kernel) (hf_up_ne (fun q => absurd q.1 (by decide))) ?_
  refine hr_pi (b := 4) (e := 1) 110 rfl (by decide +kernel) ?_
  refine hw_ald (b := 0) (e := 0) (by decide +kernel) rfl (by decide) ?_
  refine hw_ald (b := 1) (e := 0) (by decide +kernel) rfl (by decide) ?_
  refine hr_gi (w := φ 17 2) (b := 4) (e := 2) 17 rfl (by decide +kernel) ((hf_up_ne (fun q => absurd q.1 (by decide))).trans (hf_up_ne (fun q => absurd q.1 (by decide)))) ?_
  refine hr_pi (b := 4) (e := 2) 110 rfl (by decide +kernel) ?_
  refine hw_ald (b := 0) (e := 0) (by decide +kernel) rfl (by decide) ?_
  refine hw_ald (b := 1) (e := 0) (by decide +kernel) rfl (by decide) ?_
  refine hr_gi (w := φ 17 3) (b := 4) (e := 3) 17 rfl (by decide +kernel) ((hf_up_ne (fun q => absurd q.1 (by decide))).trans ((hf_up_ne (fun q => absurd q.1 (by decide))).trans (hf_up_ne (fun q => absurd q.1 (by decide))))) ?_
  refine hr_pi (b := 4) (e := 3) 110 rfl (by decide +kernel) ?_
  refine hw_ald (b := 0) (e := 0) (by decide +kernel) rfl (by decide) ?_
  refine hw_ald (b := 1) (e := 0) (by decide +kernel) rfl (by decide) ?_
  refine hr_gi (w := φ 17 4) (b := 4) (e := 4) 17 rfl (by decide +kernel) ((hf_up_ne (fun q => absurd q.1 (by decide))).trans ((hf_up_ne (fun q => absurd q.1 (by decide))).trans ((hf_up_ne (fun q => absurd q.1 (by decide))).trans (hf_up_ne (fun q => absurd q.1 (by decide)))))) ?_
  refine hr_pi (b := 4) (e := 4) 110 rfl (by decide +kernel) ?_
  refine hw_ald (b := 0) (e := 0) (by decide +kernel) rfl (by decide) ?_
  refine hw_ald (b := 1) (e := 0) (by decide +kernel) rfl (by decide) ?_
  refine hr_gi (w := φ 17 5) (b := 4) (e := 5) 17 rfl (by decide +kernel) ((hf_up_ne (fun q => absurd q.1 (by decide))).trans ((hf_up_ne (fun q => absurd q.1 (by decide))).trans ((hf_up_ne (fun q => absurd q.1 (by decide))).trans ((hf_up_ne (fun q => absurd q.1 (by decide))).trans (hf_up_ne (fun q => absurd q.1 (by decide))))))) ?_
  refine hr_pi (b := 4) (e := 5) 110 rfl (by decide +kernel) ?_
  refine hw_ald (b := 1) (e := 0) (by decide +kernel) rfl (by decide) ?_
  refine hr_gr (w := 18) (b := 4) (e := 6) 17 rfl (by decide +kernel) ?_
  refine hw_k (c := 0) (b := 0) (e := 1) (by decide +kernel) ?_
  refine hw_ald (b := 0) (e := 0) (by decide +kernel) rfl (by decide) ?_
  refine hr_gr (w := 111) (b := 4) (e := 6) 110 rfl (by decide +kernel) ?_
  refine hw_k (c := 0) (b := 0) (e := 1) (by decide +kernel) ?_
  refine hw_k (c := 8) (b := 1) (e := 2) (by decide +kernel) ?_
  refine hr_cp (a0 := 0) (b0 := 0) (e := 0) 18 111 8 rfl rfl rfl (by decide +kernel) (Nat.le_of_ble_eq_true rfl) ?_
  refine hw_ald (b := 1) (e := 0) (by decide +kernel) rfl (by decide) ?_
  refine hr_gr (w := 19) (b := 4) (e := 7) 17 rfl (by decide +kernel) ?_
  refine hw_k (c := 0) (b := 0) (e := 1) (by decide +kernel) ?_
  refine hw_ald (b := 0) (e := 0) (by decide +kernel) rfl (by decide) ?_
  refine hr_gr (w := 112) (b := 4) (e := 7) 110 rfl (by decide +kernel) ?_
  refine hw_k (c := 0) (b := 0) (e := 1) (by decide +kernel) ?_
  refine hw_k (c := 8) (b := 1) (e := 2) (by decide +kernel) ?_
  refine hr_cp (a0 := 0) (b0 := 0) (e := 0) 19 112 8 rfl rfl rfl (by decide +kernel) (Nat.le_of_ble_eq_true rfl) ?_
  refine hw_ald (b := 1) (e := 0) (by decide +kernel) rfl (by decide) ?_
  refine hr_gr (w := 20) (b := 4) (e := 8) 17 rfl (by decide +kernel) ?_
  refine hw_k (c := 0) (b := 0) (e := 1) (by decide +kernel) ?_
  refine hw_ald (b := 0) (e := 0) (by decide +kernel) rfl (by decide) ?_
  refine hr_gr (w := 113) (b := 4) (e := 8) 110 rfl (by decide +kernel) ?_
  refine hw_k (c := 0) (b := 0) (e := 1) (by decide +kernel) ?_
  refine hw_k (c := 6) (b := 1) (e := 2) (by decide +kernel) ?_
  refine hr_cp (a0 := 0) (b0 := 0) (e := 0) 20 113 6 rfl rfl rfl (by decide +kernel) (Nat.le_of_ble_eq_true rfl) ?_
  refine hw_ald (b := 1) (e := 0) (by decide +kernel) rfl (by decide) ?_
  refine hr_gr (w := 21) (b := 4) (e := 9) 17 rfl (by decide +kernel) ?_
  refine hw_k (c := 0) (b := 0) (e := 1) (by decide +kernel) ?_
  refine hw_ald (b := 0) (e := 0) (by decide +kernel) rfl (by decide) ?_
  refine hr_gr (w := 114) (b := 4) (e := 9) 110 rfl (by decide +kernel) ?_
  refine hw_k (c := 0) (b := 0) (e := 1) (by decide +kernel) ?_
  refine hw_k (c := 6) (b := 1) (e := 2) (by decide +kernel) ?_
  refine hr_cp (a0 := 0) (b0 := 0) (e := 0) 21 114 6 rfl rfl rfl (by decide +kernel) (Nat.le_of_ble_eq_true rfl) ?_
  refine hw_ald (b := 1) (e := 0) (by decide +kernel) rfl (by decide) ?_
  refine hr_gr (w := 22) (b := 4) (e := 10) 17 rfl (by decide +kernel) ?_
  refine hw_k (c := 0) (b := 0) (e := 1) (by decide +kernel) ?_
  refine hw_ald (b := 0) (e := 0) (by decide +kernel) rfl (by decide) ?_
  refine hr_gr (w := 115) (b := 4) (e := 10) 110 rfl (by decide +kernel) ?_
  refine hw_k (c := 0) (b := 0) (e := 1) (by decide +kernel) ?_
  refine hw_k (c := 36) (b := 1) (e := 2) (by decide +kernel) ?_
  refine hr_cp (a0 := 0) (b0 := 0) (e := 0) 22 115 36 rfl rfl rfl (by decide +kernel) (Nat.le_of_ble_eq_true rfl) ?_
  refine hw_ald (b := 1) (e := 0) (by decide +kernel) rfl (by decide) ?_
  refine hr_gr (w := 23) (b := 4) (e := 11) 17 rfl (by decide +kernel) ?_
  refine hw_k (c := 0) (b := 0) (e := 1) (by decide +kernel) ?_
  refine hw_ald (b := 0) (e := 0) (by decide +kernel) rfl (by decide) ?_
  refine hr_gr (w := 116) (b := 4) (e := 11) 110 rfl (by decide +kernel) ?_
  refine hw_k (c := 0) (b := 0) (e := 1) (by decide +kernel) ?_
  refine hw_k (c := 6) (b := 1) (e := 2) (by decide +kernel) ?_
  refine hr_cp (a0 := 0) (b0 := 0) (e := 0) 23 116 6 rfl rfl rfl (by decide +kernel) (Nat.le_of_ble_eq_true rfl) ?_
  refine hw_ald (b := 1) (e := 0) (by decide +kernel) rfl (by decide) ?_
  refine hr_gr (w := 24) (b := 4) (e := 12) 17 rfl (by decide +kernel) ?_
  refine hw_k (c := 0) (b := 0) (e := 1) (by decide +kernel) ?_
  refine hw_ald (b := 0) (e := 0) (by decide +kernel) rfl (by decide) ?_
  refine hr_gr (w := 117) (b := 4) (e := 12) 110 rfl (by decide +kernel) ?_
  refine hw_k (c := 0) (b := 0) (e := 1) (by decide +kernel) ?_
  refine hw_k (c := 6) (b := 1) (e := 2) (by decide +kernel) ?_
  refine hr_cp (a0 := 0) (b0 := 0) (e := 0) 24 117 6 rfl rfl rfl (by decide +kernel) (Nat.le_of_ble_eq_true rfl) ?_
  refine hw_ald (b := 1) (e := 0) (by decide +kernel) rfl (by decide) ?_
  refine hr_gr (w := 25) (b := 4) (e := 13) 17 rfl (by decide +kernel) ?_
  refine hw_k (c := 0) (b := 0) (e := 1) (by decide +kernel) ?_
  refine hw_ald (b := 0) (e := 0) (by decide +kernel) rfl (by decide) ?_
  refine hr_gr (w := 118) (b := 4) (e := 13) 110 rfl (by decide +kernel) ?_
  refine hw_k (c := 0) (b := 0) (e := 1) (by decide +kernel) ?_
  refine hw_k (c := 8) (b := 1) (e := 2) (by decide +kernel) ?_
  refine hr_cp (a0 := 0) (b0 := 0) (e := 0) 25 118 8 rfl rfl rfl (by decide +kernel) (Nat.le_of_ble_eq_true rfl) ?_
  exact hw_vret (a0 := 0) (e := 0) (by decide +kernel) H
theorem sf_66_110_17 {sc : List Int} {d : Nat} {φ : hf_F} {x : Nat} {Q : Option jm_V → hf_F → Nat → Prop}  (hI : Inv φ)  (hQ : ∀ ψ : hf_F, Inv ψ → Fr [111, 112, 113, 114, 115, 116, 117, 118, 111000, 111001, 111002, 111003, 111004, 111005] φ ψ → F_State_copyFrom_110_17 φ = ψ → Q none ψ x) : hw sc d 66 0 [(0, (2, 110)), (1, (2, 17))] [] φ x Q := by
  apply sf_66_110_17_v
  have e0 : F_State_copyFrom_110_17 φ = _ := rfl
  have i1 : Inv (hf_up φ 110 0 (φ 17 0)) := iv_upn hI (by decide) (by decide) (by decide +kernel)
  have r1 : Fr [111, 112, 113, 114, 115, 116, 117, 118, 111000, 111001, 111002, 111003, 111004, 111005] φ (hf_up φ 110 0 (φ 17 0)) := fr_up (fr_rf) (by decide)
  have f2 := iv_at (a := 17) (k := 1) (lo := (-1 : Int)) (u := 7) hI (by decide +kernel)
  have i3 : Inv (hf_up (hf_up φ 110 0 (φ 17 0)) 110 1 (φ 17 1)) := iv_up (lo := (-1 : Int)) (u := 7) i1 (by decide +kernel) (by omega) (by omega)
  have r3 : Fr [111, 112, 113, 114, 115, 116, 117, 118, 111000, 111001, 111002, 111003, 111004, 111005] φ (hf_up (hf_up φ 110 0 (φ 17 0)) 110 1 (φ 17 1)) := fr_up r1 (by decide)
  have f4 := iv_at (a := 17) (k := 2) (lo := (-1 : Int)) (u := 5) hI (by decide +kernel)
  have i5 : Inv (hf_up (hf_up (hf_up φ 110 0 (φ 17 0)) 110 1 (φ 17 1)) 110 2 (φ 17 2)) := iv_up (lo := (-1 : Int)) (u := 5) i3 (by decide +kernel) (by omega) (by omega)
  have r5 : Fr [111, 112, 113, 114, 115, 116, 117, 118, 111000, 111001, 111002, 111003, 111004, 111005] φ (hf_up (hf_up (hf_up φ 110 0 (φ 17 0)) 110 1 (φ 17 1)) 110 2 (φ 17 2)) := fr_up r3 (by decide)
  have f6 := iv_at (a := 17) (k := 3) (lo := (-2147483648 : Int)) (u := 2147483647) hI (by decide +kernel)
  have i7 : Inv (hf_up (hf_up (hf_up (hf_up φ 110 0 (φ 17 0)) 110 1 (φ 17 1)) 110 2 (φ 17 2)) 110 3 (φ 17 3)) := iv_up (lo := (-2147483648 : Int)) (u := 2147483647) i5 (by decide +kernel) (by omega) (by omega)
  have r7 : Fr [111, 112, 113, 114, 115, 116, 117, 118, 111000, 111001, 111002, 111003, 111004, 111005] φ (hf_up (hf_up (hf_up (hf_up φ 110 0 (φ 17 0)) 110 1 (φ 17 1)) 110 2 (φ 17 2)) 110 3 (φ 17 3)) := fr_up r5 (by decide)
  have i8 : Inv (hf_up (hf_up (hf_up (hf_up (hf_up φ 110 0 (φ 17 0)) 110 1 (φ 17 1)) 110 2 (φ 17 2)) 110 3 (φ 17 3)) 110 4 (φ 17 4)) := iv_upn i7 (by decide) (by decide) (by decide +kernel)
  have r8 : Fr [111, 112, 113, 114, 115, 116, 117, 118, 111000, 111001, 111002, 111003, 111004, 111005] φ (hf_up (hf_up (hf_up (hf_up (hf_up φ 110 0 (φ 17 0)) 110 1 (φ 17 1)) 110 2 (φ 17 2)) 110 3 (φ 17 3)) 110 4 (φ 17 4)) := fr_up r7 (by decide)
  have i9 : Inv (hf_up (hf_up (hf_up (hf_up (hf_up (hf_up φ 110 0 (φ 17 0)) 110 1 (φ 17 1)) 110 2 (φ 17 2)) 110 3 (φ 17 3)) 110 4 (φ 17 4)) 110 5 (φ 17 5)) := iv_upn i8 (by decide) (by decide) (by decide +kernel)
  have r9 : Fr [111, 112, 113, 114, 115, 116, 117, 118, 111000, 111001, 111002, 111003, 111004, 111005] φ (hf_up (hf_up (hf_up (hf_up (hf_up (hf_up φ 110 0 (φ 17 0)) 110 1 (φ 17 1)) 110 2 (φ 17 2)) 110 3 (φ 17 3)) 110 4 (φ 17 4)) 110 5 (φ 17 5)) := fr_up r8 (by decide)
  have i10 : Inv (hf_cp (hf_up (hf_up (hf_up (hf_up (hf_up (hf_up φ 110 0 (φ 17 0)) 110 1 (φ 17 1)) 110 2 (φ 17 2)) 110 3 (φ 17 3)) 110 4 (φ 17 4)) 110 5 (φ 17 5)) 18 111 8) := iv_cp i9 (by decide) (by decide +kernel)
  have r10 : Fr [111, 112, 113, 114, 115, 116, 117, 118, 111000, 111001, 111002, 111003, 111004, 111005] φ (hf_cp (hf_up (hf_up (hf_up (hf_up (hf_up (hf_up φ 110 0 (φ 17 0)) 110 1 (φ 17 1)) 110 2 (φ 17 2)) 110 3 (φ 17 3)) 110 4 (φ 17 4)) 110 5 (φ 17 5)) 18 111 8) := fr_cp r9 (by decide)
  have i11 : Inv (hf_cp (hf_cp (hf_up (hf_up (hf_up (hf_up (hf_up (hf_up φ 110 0 (φ 17 0)) 110 1 (φ 17 1)) 110 2 (φ 17 2)) 110 3 (φ 17 3)) 110 4 (φ 17 4)) 110 5 (φ 17 5)) 18 111 8) 19 112 8) := iv_cp i10 (by decide) (by decide +kernel)
  have r11 : Fr [111, 112, 113, 114, 115, 116, 117, 118, 111000, 111001, 111002, 111003, 111004, 111005] φ (hf_cp (hf_cp (hf_up (hf_up (hf_up (hf_up (hf_up (hf_up φ 110 0 (φ 17 0)) 110 1 (φ 17 1)) 110 2 (φ 17 2)) 110 3 (φ 17 3)) 110 4 (φ 17 4)) 110 5 (φ 17 5)) 18 111 8) 19 112 8) := fr_cp r10 (by decide)
  have i12 : Inv (hf_cp (hf_cp (hf_cp (hf_up (hf_up (hf_up (hf_up (hf_up (hf_up φ 110 0 (φ 17 0)) 110 1 (φ 17 1)) 110 2 (φ 17 2)) 110 3 (φ 17 3)) 110 4 (φ 17 4)) 110 5 (φ 17 5)) 18 111 8) 19 112 8) 20 113 6) := iv_cp i11 (by decide) (by decide +kernel)
  have r12 : Fr [111, 112, 113, 114, 115, 116, 117, 118, 111000, 111001, 111002, 111003, 111004, 111005] φ (hf_cp (hf_cp (hf_cp (hf_up (hf_up (hf_up (hf_up (hf_up (hf_up φ 110 0 (φ 17 0)) 110 1 (φ 17 1)) 110 2 (φ 17 2)) 110 3 (φ 17 3)) 110 4 (φ 17 4)) 110 5 (φ 17 5)) 18 111 8) 19 112 8) 20 113 6) := fr_cp r11 (by decide)
  have i13 : Inv (hf_cp (hf_cp (hf_cp (hf_cp (hf_up (hf_up (hf_up (hf_up (hf_up (hf_up φ 110 0 (φ 17 0)) 110 1 (φ 17 1)) 110 2 (φ 17 2)) 110 3 (φ 17 3)) 110 4 (φ 17 4)) 110 5 (φ 17 5)) 18 111 8) 19 112 8) 20 113 6) 21 114 6) := iv_cp i12 (by decide) (by decide +kernel)
  have r13 : Fr [111, 112, 113, 114, 115, 116, 117, 118, 111000, 111001, 111002, 111003, 111004, 111005] φ (hf_cp (hf_cp (hf_cp (hf_cp (hf_up (hf_up (hf_up (hf_up (hf_up (hf_up φ 110 0 (φ 17 0)) 110 1 (φ 17 1)) 110 2 (φ 17 2)) 110 3 (φ 17 3)) 110 4 (φ 17 4)) 110 5 (φ 17 5)) 18 111 8) 19 112 8) 20 113 6) 21 114 6) := fr_cp r12 (by decide)
  have i14 : Inv (hf_cp (hf_cp (hf_cp (hf_cp (hf_cp (hf_up (hf_up (hf_up (hf_up (hf_up (hf_up φ 110 0 (φ 17 0)) 110 1 (φ 17 1)) 110 2 (φ 17 2)) 110 3 (φ 17 3)) 110 4 (φ 17 4)) 110 5 (φ 17 5)) 18 111 8) 19 112 8) 20 113 6) 21 114 6) 22 115 36) := iv_cp i13 (by decide) (by decide +kernel)
  have r14 : Fr [111, 112, 113, 114, 115, 116, 117, 118, 111000, 111001, 111002, 111003, 111004, 111005] φ (hf_cp (hf_cp (hf_cp (hf_cp (hf_cp (hf_up (hf_up (hf_up (hf_up (hf_up (hf_up φ 110 0 (φ 17 0)) 110 1 (φ 17 1)) 110 2 (φ 17 2)) 110 3 (φ 17 3)) 110 4 (φ 17 4)) 110 5 (φ 17 5)) 18 111 8) 19 112 8) 20 113 6) 21 114 6) 22 115 36) := fr_cp r13 (by decide)
  have i15 : Inv (hf_cp (hf_cp (hf_cp (hf_cp (hf_cp (hf_cp (hf_up (hf_up (hf_up (hf_up (hf_up (hf_up φ 110 0 (φ 17 0)) 110 1 (φ 17 1)) 110 2 (φ 17 2)) 110 3 (φ 17 3)) 110 4 (φ 17 4)) 110 5 (φ 17 5)) 18 111 8) 19 112 8) 20 113 6) 21 114 6) 22 115 36) 23 116 6) := iv_cp i14 (by decide) (by decide +kernel)
  have r15 : Fr [111, 112, 113, 114, 115, 116, 117, 118, 111000, 111001, 111002, 111003, 111004, 111005] φ (hf_cp (hf_cp (hf_cp (hf_cp (hf_cp (hf_cp (hf_up (hf_up (hf_up (hf_up (hf_up (hf_up φ 110 0 (φ 17 0)) 110 1 (φ 17 1)) 110 2 (φ 17 2)) 110 3 (φ 17 3)) 110 4 (φ 17 4)) 110 5 (φ 17 5)) 18 111 8) 19 112 8) 20 113 6) 21 114 6) 22 115 36) 23 116 6) := fr_cp r14 (by decide)
  have i16 : Inv (hf_cp (hf_cp (hf_cp (hf_cp (hf_cp (hf_cp (hf_cp (hf_up (hf_up (hf_up (hf_up (hf_up (hf_up φ 110 0 (φ 17 0)) 110 1 (φ 17 1)) 110 2 (φ 17 2)) 110 3 (φ 17 3)) 110 4 (φ 17 4)) 110 5 (φ 17 5)) 18 111 8) 19 112 8) 20 113 6) 21 114 6) 22 115 36) 23 116 6) 24 117 6) := iv_cp i15 (by decide) (by decide +kernel)
  have r16 : Fr [111, 112, 113, 114, 115, 116, 117, 118, 111000, 111001, 111002, 111003, 111004, 111005] φ (hf_cp (hf_cp (hf_cp (hf_cp (hf_cp (hf_cp (hf_cp (hf_up (hf_up (hf_up (hf_up (hf_up (hf_up φ 110 0 (φ 17 0)) 110 1 (φ 17 1)) 110 2 (φ 17 2)) 110 3 (φ 17 3)) 110 4 (φ 17 4)) 110 5 (φ 17 5)) 18 111 8) 19 112 8) 20 113 6) 21 114 6) 22 115 36) 23 116 6) 24 117 6) := fr_cp r15 (by decide)
  have i17 : Inv (hf_cp (hf_cp (hf_cp (hf_cp (hf_cp (hf_cp (hf_cp (hf_cp (hf_up (hf_up (hf_up (hf_up (hf_up (hf_up φ 110 0 (φ 17 0)) 110 1 (φ 17 1)) 110 2 (φ 17 2)) 110 3 (φ 17 3)) 110 4 (φ 17 4)) 110 5 (φ 17 5)) 18 111 8) 19 112 8) 20 113 6) 21 114 6) 22 115 36) 23 116 6) 24 117 6) 25 118 8) := iv_cp i16 (by decide) (by decide +kernel)
  have r17 : Fr [111, 112, 113, 114, 115, 116, 117, 118, 111000, 111001, 111002, 111003, 111004, 111005] φ (hf_cp (hf_cp (hf_cp (hf_cp (hf_cp (hf_cp (hf_cp (hf_cp (hf_up (hf_up (hf_up (hf_up (hf_up (hf_up φ 110 0 (φ 17 0)) 110 1 (φ 17 1)) 110 2 (φ 17 2)) 110 3 (φ 17 3)) 110 4 (φ 17 4)) 110 5 (φ 17 5)) 18 111 8) 19 112 8) 20 113 6) 21 114 6) 22 115 36) 23 116 6) 24 117 6) 25 118 8) := fr_cp r16 (by decide)
  exact hQ (hf_cp (hf_cp (hf_cp (hf_cp (hf_cp (hf_cp (hf_cp (hf_cp (hf_up (hf_up (hf_up (hf_up (hf_up (hf_up φ 110 0 (φ 17 0)) 110 1 (φ 17 1)) 110 2 (φ 17 2)) 110 3 (φ 17 3)) 110 4 (φ 17 4)) 110 5 (φ 17 5)) 18 111 8) 19 112 8) 20 113 6) 21 114 6) 22 115 36) 23 116 6) 24 117 6) 25 118 8) i17 r17 e0
theorem sf_66_119_17_v {sc : List Int} {d : Nat} {φ : hf_F} {x : Nat} {Q : Option jm_V → hf_F → Nat → Prop} 
    (H : Q none (hf_cp (hf_cp (hf_cp (hf_cp (hf_cp (hf_cp (hf_cp (hf_cp (hf_up (hf_up (hf_up (hf_up (hf_up (hf_up φ 119 0 (φ 17 0)) 119 1 (φ 17 1)) 119 2 (φ 17 2)) 119 3 (φ 17 3)) 119 4 (φ 17 4)) 119 5 (φ 17 5)) 18 120 8) 19 121 8) 20 122 6) 21 123 6) 22 124 36) 23 125 6) 24 126 6) 25 127 8) x) :
    hw sc d 66 0 [(0, (2, 119)), (1, (2, 17))] [] φ x Q := by
  refine hw_ald (b := 0) (e := 0) (by decide +kernel) rfl (by decide) ?_
  refine hw_ald (b := 1) (e := 0) (by decide +kernel) rfl (by decide) ?_
  refine hr_gi (w := φ 17 0) (b := 4) (e := 0) 17 rfl (by decide +kernel) rfl ?_
  refine hr_pi (b := 4) (e := 0) 119 rfl (by decide +kernel) ?_
  refine hw_ald (b := 0) (e := 0) (by decide +kernel) rfl (by decide) ?_
  refine hw_ald (b := 1) (e := 0) (by decide +kernel) rfl (by decide) ?_
  refine hr_gi (w := φ 17 1) (b := 4) (e := 1) 17 rfl (by decide +kernel) (hf_up_ne (fun q => absurd q.1 (by decide))) ?_
  refine hr_pi (b := 4) (e := 1) 119 rfl (by decide +kernel) ?_
  refine hw_ald (b := 0) (e := 0) (by decide +kernel) rfl (by decide) ?_
  refine hw_ald (b := 1) (e := 0) (by decide +kernel) rfl (by decide) ?_
  refine hr_gi (w := φ 17 2) (b := 4) (e := 2) 17 rfl (by decide +kernel) ((hf_up_ne (fun q => absurd q.1 (by decide))).trans (hf_up_ne (fun q => absurd q.1 (by decide)))) ?_
  refine hr_pi (b := 4) (e := 2) 119 rfl (by decide +kernel) ?_
  refine hw_ald (b := 0) (e := 0) (by decide +kernel) rfl (by decide) ?_
  refine hw_ald (b := 1) (e := 0) (by decide +kernel) rfl (by decide) ?_
  refine hr_gi (w := φ 17 3) (b := 4) (e := 3) 17 rfl (by decide +kernel) ((hf_up_ne (fun q => absurd q.1 (by decide))).trans ((hf_up_ne (fun q => absurd q.1 (by decide))).trans (hf_up_ne (fun q => absurd q.1 (by decide))))) ?_
  refine hr_pi (b := 4) (e := 3) 119 rfl (by decide +kernel) ?_
  refine hw_ald (b := 0) (e := 0) (by decide +kernel) rfl (by decide) ?_
  refine hw_ald (b := 1) (e := 0) (by decide +kernel) rfl (by decide) ?_
  refine hr_gi (w := φ 17 4) (b := 4) (e := 4) 17 rfl (by decide +kernel) ((hf_up_ne (fun q => absurd q.1 (by decide))).trans ((hf_up_ne (fun q => absurd q.1 (by decide))).trans ((hf_up_ne (fun q => absurd q.1 (by decide))).trans (hf_up_ne (fun q => absurd q.1 (by decide)))))) ?_
  refine hr_pi (b := 4) (e := 4) 119 rfl (by decide +kernel) ?_
  refine hw_ald (b := 0) (e := 0) (by decide +kernel) rfl (by decide) ?_
  refine hw_ald (b := 1) (e := 0) (by decide +kernel) rfl (by decide) ?_
  refine hr_gi (w := φ 17 5) (b := 4) (e := 5) 17 rfl (by decide +kernel) ((hf_up_ne (fun q => absurd q.1 (by decide))).trans ((hf_up_ne (fun q => absurd q.1 (by decide))).trans ((hf_up_ne (fun q => absurd q.1 (by decide))).trans ((hf_up_ne (fun q => absurd q.1 (by decide))).trans (hf_up_ne (fun q => absurd q.1 (by decide))))))) ?_
  refine hr_pi (b := 4) (e := 5) 119 rfl (by decide +kernel) ?_
  refine hw_ald (b := 1) (e := 0) (by decide +kernel) rfl (by decide) ?_
  refine hr_gr (w := 18) (b := 4) (e := 6) 17 rfl (by decide +kernel) ?_
  refine hw_k (c := 0) (b := 0) (e := 1) (by decide +kernel) ?_
  refine hw_ald (b := 0) (e := 0) (by decide +kernel) rfl (by decide) ?_
  refine hr_gr (w := 120) (b := 4) (e := 6) 119 rfl (by decide +kernel) ?_
  refine hw_k (c := 0) (b := 0) (e := 1) (by decide +kernel) ?_
  refine hw_k (c := 8) (b := 1) (e := 2) (by decide +kernel) ?_
  refine hr_cp (a0 := 0) (b0 := 0) (e := 0) 18 120 8 rfl rfl rfl (by decide +kernel) (Nat.le_of_ble_eq_true rfl) ?_
  refine hw_ald (b := 1) (e := 0) (by decide +kernel) rfl (by decide) ?_
  refine hr_gr (w := 19) (b := 4) (e := 7) 17 rfl (by decide +kernel) ?_
  refine hw_k (c := 0) (b := 0) (e := 1) (by decide +kernel) ?_
  refine hw_ald (b := 0) (e := 0) (by decide +kernel) rfl (by decide) ?_
  refine hr_gr (w := 121) (b := 4) (e := 7) 119 rfl (by decide +kernel) ?_
  refine hw_k (c := 0) (b := 0) (e := 1) (by decide +kernel) ?_
  refine hw_k (c := 8) (b := 1) (e := 2) (by decide +kernel) ?_
  refine hr_cp (a0 := 0) (b0 := 0) (e := 0) 19 121 8 rfl rfl rfl (by decide +kernel) (Nat.le_of_ble_eq_true rfl) ?_
  refine hw_ald (b := 1) (e := 0) (by decide +kernel) rfl (by decide) ?_
  refine hr_gr (w := 20) (b := 4) (e := 8) 17 rfl (by decide +kernel) ?_
  refine hw_k (c := 0) (b := 0) (e := 1) (by decide +kernel) ?_
  refine hw_ald (b := 0) (e := 0) (by decide +kernel) rfl (by decide) ?_
  refine hr_gr (w := 122) (b := 4) (e := 8) 119 rfl (by decide +kernel) ?_
  refine hw_k (c := 0) (b := 0) (e := 1) (by decide +kernel) ?_
  refine hw_k (c := 6) (b := 1) (e := 2) (by decide +kernel) ?_
  refine hr_cp (a0 := 0) (b0 := 0) (e := 0) 20 122 6 rfl rfl rfl (by decide +kernel) (Nat.le_of_ble_eq_true rfl) ?_
  refine hw_ald (b := 1) (e := 0) (by decide +kernel) rfl (by decide) ?_
  refine hr_gr (w := 21) (b := 4) (e := 9) 17 rfl (by decide +kernel) ?_
  refine hw_k (c := 0) (b := 0) (e := 1) (by decide +kernel) ?_
  refine hw_ald (b := 0) (e := 0) (by decide +kernel) rfl (by decide) ?_
  refine hr_gr (w := 123) (b := 4) (e := 9) 119 rfl (by decide +kernel) ?_
  refine hw_k (c := 0) (b := 0) (e := 1) (by decide +kernel) ?_
  refine hw_k (c := 6) (b := 1) (e := 2) (by decide +kernel) ?_
  refine hr_cp (a0 := 0) (b0 := 0) (e := 0) 21 123 6 rfl rfl rfl (by decide +kernel) (Nat.le_of_ble_eq_true rfl) ?_
  refine hw_ald (b := 1) (e := 0) (by decide +kernel) rfl (by decide) ?_
  refine hr_gr (w := 22) (b := 4) (e := 10) 17 rfl (by decide +kernel) ?_
  refine hw_k (c := 0) (b := 0) (e := 1) (by decide +kernel) ?_
  refine hw_ald (b := 0) (e := 0) (by decide +kernel) rfl (by decide) ?_
  refine hr_gr (w := 124) (b := 4) (e := 10) 119 rfl (by decide +kernel) ?_
  refine hw_k (c := 0) (b := 0) (e := 1) (by decide +kernel) ?_
  refine hw_k (c := 36) (b := 1) (e := 2) (by decide +kernel) ?_
  refine hr_cp (a0 := 0) (b0 := 0) (e := 0) 22 124 36 rfl rfl rfl (by decide +kernel) (Nat.le_of_ble_eq_true rfl) ?_
  refine hw_ald (b := 1) (e := 0) (by decide +kernel) rfl (by decide) ?_
  refine hr_gr (w := 23) (b := 4) (e := 11) 17 rfl (by decide +kernel) ?_
  refine hw_k (c := 0) (b := 0) (e := 1) (by decide +kernel) ?_
  refine hw_ald (b := 0) (e := 0) (by decide +kernel) rfl (by decide) ?_
  refine hr_gr (w := 125) (b := 4) (e := 11) 119 rfl (by decide +kernel) ?_
  refine hw_k (c := 0) (b := 0) (e := 1) (by decide +kernel) ?_
  refine hw_k (c := 6) (b := 1) (e := 2) (by decide +kernel) ?_
  refine hr_cp (a0 := 0) (b0 := 0) (e := 0) 23 125 6 rfl rfl rfl (by decide +kernel) (Nat.le_of_ble_eq_true rfl) ?_
  refine hw_ald (b := 1) (e := 0) (by decide +kernel) rfl (by decide) ?_
  refine hr_gr (w := 24) (b := 4) (e := 12) 17 rfl (by decide +kernel) ?_
  refine hw_k (c := 0) (b := 0) (e := 1) (by decide +kernel) ?_
  refine hw_ald (b := 0) (e := 0) (by decide +kernel) rfl (by decide) ?_
  refine hr_gr (w := 126) (b := 4) (e := 12) 119 rfl (by decide +kernel) ?_
  refine hw_k (c := 0) (b := 0) (e := 1) (by decide +kernel) ?_
  refine hw_k (c := 6) (b := 1) (e := 2) (by decide +kernel) ?_
  refine hr_cp (a0 := 0) (b0 := 0) (e := 0) 24 126 6 rfl rfl rfl (by decide +kernel) (Nat.le_of_ble_eq_true rfl) ?_
  refine hw_ald (b := 1) (e := 0) (by decide +kernel) rfl (by decide) ?_
  refine hr_gr (w := 25) (b := 4) (e := 13) 17 rfl (by decide +kernel) ?_
  refine hw_k (c := 0) (b := 0) (e := 1) (by decide +kernel) ?_
  refine hw_ald (b := 0) (e := 0) (by decide +kernel) rfl (by decide) ?_
  refine hr_gr (w := 127) (b := 4) (e := 13) 119 rfl (by decide +kernel) ?_
  refine hw_k (c := 0) (b := 0) (e := 1) (by decide +kernel) ?_
  refine hw_k (c := 8) (b := 1) (e := 2) (by decide +kernel) ?_
  refine hr_cp (a0 := 0) (b0 := 0) (e := 0) 25 127 8 rfl rfl rfl (by decide +kernel) (Nat.le_of_ble_eq_true rfl) ?_
  exact hw_vret (a0 := 0) (e := 0) (by decide +kernel) H
theorem sf_66_119_17 {sc : List Int} {d : Nat} {φ : hf_F} {x : Nat} {Q : Option jm_V → hf_F → Nat → Prop}  (hI : Inv φ)  (hQ : ∀ ψ : hf_F, Inv ψ → Fr [120, 121, 122, 123, 124, 125, 126, 127, 120000, 120001, 120002, 120003, 120004, 120005] φ ψ → F_State_copyFrom_119_17 φ = ψ → Q none ψ x) : hw sc d 66 0 [(0, (2, 119)), (1, (2, 17))] [] φ x Q := by
  apply sf_66_119_17_v
  have e0 : F_State_copyFrom_119_17 φ = _ := rfl
  have i1 : Inv (hf_up φ 119 0 (φ 17 0)) := iv_upn hI (by decide) (by decide) (by decide +kernel)
  have r1 : Fr [120, 121, 122, 123, 124, 125, 126, 127, 120000, 120001, 120002, 120003, 120004, 120005] φ (hf_up φ 119 0 (φ 17 0)) := fr_up (fr_rf) (by decide)
  have f2 := iv_at (a := 17) (k := 1) (lo := (-1 : Int)) (u := 7) hI (by decide +kernel)
  have i3 : Inv (hf_up (hf_up φ 119 0 (φ 17 0)) 119 1 (φ 17 1)) := iv_up (lo := (-1 : Int)) (u := 7) i1 (by decide +kernel) (by omega) (by omega)
  have r3 : Fr [120, 121, 122, 123, 124, 125, 126, 127, 120000, 120001, 120002, 120003, 120004, 120005] φ (hf_up (hf_up φ 119 0 (φ 17 0)) 119 1 (φ 17 1)) := fr_up r1 (by decide)
  have f4 := iv_at (a := 17) (k := 2) (lo := (-1 : Int)) (u := 5) hI (by decide +kernel)
  have i5 : Inv (hf_up (hf_up (hf_up φ 119 0 (φ 17 0)) 119 1 (φ 17 1)) 119 2 (φ 17 2)) := iv_up (lo := (-1 : Int)) (u := 5) i3 (by decide +kernel) (by omega) (by omega)
  have r5 : Fr [120, 121, 122, 123, 124, 125, 126, 127, 120000, 120001, 120002, 120003, 120004, 120005] φ (hf_up (hf_up (hf_up φ 119 0 (φ 17 0)) 119 1 (φ 17 1)) 119 2 (φ 17 2)) := fr_up r3 (by decide)
  have f6 := iv_at (a := 17) (k := 3) (lo := (-2147483648 : Int)) (u := 2147483647) hI (by decide +kernel)
  have i7 : Inv (hf_up (hf_up (hf_up (hf_up φ 119 0 (φ 17 0)) 119 1 (φ 17 1)) 119 2 (φ 17 2)) 119 3 (φ 17 3)) := iv_up (lo := (-2147483648 : Int)) (u := 2147483647) i5 (by decide +kernel) (by omega) (by omega)
  have r7 : Fr [120, 121, 122, 123, 124, 125, 126, 127, 120000, 120001, 120002, 120003, 120004, 120005] φ (hf_up (hf_up (hf_up (hf_up φ 119 0 (φ 17 0)) 119 1 (φ 17 1)) 119 2 (φ 17 2)) 119 3 (φ 17 3)) := fr_up r5 (by decide)
  have i8 : Inv (hf_up (hf_up (hf_up (hf_up (hf_up φ 119 0 (φ 17 0)) 119 1 (φ 17 1)) 119 2 (φ 17 2)) 119 3 (φ 17 3)) 119 4 (φ 17 4)) := iv_upn i7 (by decide) (by decide) (by decide +kernel)
  have r8 : Fr [120, 121, 122, 123, 124, 125, 126, 127, 120000, 120001, 120002, 120003, 120004, 120005] φ (hf_up (hf_up (hf_up (hf_up (hf_up φ 119 0 (φ 17 0)) 119 1 (φ 17 1)) 119 2 (φ 17 2)) 119 3 (φ 17 3)) 119 4 (φ 17 4)) := fr_up r7 (by decide)
  have i9 : Inv (hf_up (hf_up (hf_up (hf_up (hf_up (hf_up φ 119 0 (φ 17 0)) 119 1 (φ 17 1)) 119 2 (φ 17 2)) 119 3 (φ 17 3)) 119 4 (φ 17 4)) 119 5 (φ 17 5)) := iv_upn i8 (by decide) (by decide) (by decide +kernel)
  have r9 : Fr [120, 121, 122, 123, 124, 125, 126, 127, 120000, 120001, 120002, 120003, 120004, 120005] φ (hf_up (hf_up (hf_up (hf_up (hf_up (hf_up φ 119 0 (φ 17 0)) 119 1 (φ 17 1)) 119 2 (φ 17 2)) 119 3 (φ 17 3)) 119 4 (φ 17 4)) 119 5 (φ 17 5)) := fr_up r8 (by decide)
  have i10 : Inv (hf_cp (hf_up (hf_up (hf_up (hf_up (hf_up (hf_up φ 119 0 (φ 17 0)) 119 1 (φ 17 1)) 119 2 (φ 17 2)) 119 3 (φ 17 3)) 119 4 (φ 17 4)) 119 5 (φ 17 5)) 18 120 8) := iv_cp i9 (by decide) (by decide +kernel)
  have r10 : Fr [120, 121, 122, 123, 124, 125, 126, 127, 120000, 120001, 120002, 120003, 120004, 120005] φ (hf_cp (hf_up (hf_up (hf_up (hf_up (hf_up (hf_up φ 119 0 (φ 17 0)) 119 1 (φ 17 1)) 119 2 (φ 17 2)) 119 3 (φ 17 3)) 119 4 (φ 17 4)) 119 5 (φ 17 5)) 18 120 8) := fr_cp r9 (by decide)
  have i11 : Inv (hf_cp (hf_cp (hf_up (hf_up (hf_up (hf_up (hf_up (hf_up φ 119 0 (φ 17 0)) 119 1 (φ 17 1)) 119 2 (φ 17 2)) 119 3 (φ 17 3)) 119 4 (φ 17 4)) 119 5 (φ 17 5)) 18 120 8) 19 121 8) := iv_cp i10 (by decide) (by decide +kernel)
  have r11 : Fr [120, 121, 122, 123, 124, 125, 126, 127, 120000, 120001, 120002, 120003, 120004, 120005] φ (hf_cp (hf_cp (hf_up (hf_up (hf_up (hf_up (hf_up (hf_up φ 119 0 (φ 17 0)) 119 1 (φ 17 1)) 119 2 (φ 17 2)) 119 3 (φ 17 3)) 119 4 (φ 17 4)) 119 5 (φ 17 5)) 18 120 8) 19 121 8) := fr_cp r10 (by decide)
  have i12 : Inv (hf_cp (hf_cp (hf_cp (hf_up (hf_up (hf_up (hf_up (hf_up (hf_up φ 119 0 (φ 17 0)) 119 1 (φ 17 1)) 119 2 (φ 17 2)) 119 3 (φ 17 3)) 119 4 (φ 17 4)) 119 5 (φ 17 5)) 18 120 8) 19 121 8) 20 122 6) := iv_cp i11 (by decide) (by decide +kernel)
  have r12 : Fr [120, 121, 122, 123, 124, 125, 126, 127, 120000, 120001, 120002, 120003, 120004, 120005] φ (hf_cp (hf_cp (hf_cp (hf_up (hf_up (hf_up (hf_up (hf_up (hf_up φ 119 0 (φ 17 0)) 119 1 (φ 17 1)) 119 2 (φ 17 2)) 119 3 (φ 17 3)) 119 4 (φ 17 4)) 119 5 (φ 17 5)) 18 120 8) 19 121 8) 20 122 6) := fr_cp r11 (by decide)
  have i13 : Inv (hf_cp (hf_cp (hf_cp (hf_cp (hf_up (hf_up (hf_up (hf_up (hf_up (hf_up φ 119 0 (φ 17 0)) 119 1 (φ 17 1)) 119 2 (φ 17 2)) 119 3 (φ 17 3)) 119 4 (φ 17 4)) 119 5 (φ 17 5)) 18 120 8) 19 121 8) 20 122 6) 21 123 6) := iv_cp i12 (by decide) (by decide +kernel)
  have r13 : Fr [120, 121, 122, 123, 124, 125, 126, 127, 120000, 120001, 120002, 120003, 120004, 120005] φ (hf_cp (hf_cp (hf_cp (hf_cp (hf_up (hf_up (hf_up (hf_up (hf_up (hf_up φ 119 0 (φ 17 0)) 119 1 (φ 17 1)) 119 2 (φ 17 2)) 119 3 (φ 17 3)) 119 4 (φ 17 4)) 119 5 (φ 17 5)) 18 120 8) 19 121 8) 20 122 6) 21 123 6) := fr_cp r12 (by decide)
  have i14 : Inv (hf_cp (hf_cp (hf_cp (hf_cp (hf_cp (hf_up (hf_up (hf_up (hf_up (hf_up (hf_up φ 119 0 (φ 17 0)) 119 1 (φ 17 1)) 119 2 (φ 17 2)) 119 3 (φ 17 3)) 119 4 (φ 17 4)) 119 5 (φ 17 5)) 18 120 8) 19 121 8) 20 122 6) 21 123 6) 22 124 36) := iv_cp i13 (by decide) (by decide +kernel)
  have r14 : Fr [120, 121, 122, 123, 124, 125, 126, 127, 120000, 120001, 120002, 120003, 120004, 120005] φ (hf_cp (hf_cp (hf_cp (hf_cp (hf_cp (hf_up (hf_up (hf_up (hf_up (hf_up (hf_up φ 119 0 (φ 17 0)) 119 1 (φ 17 1)) 119 2 (φ 17 2)) 119 3 (φ 17 3)) 119 4 (φ 17 4)) 119 5 (φ 17 5)) 18 120 8) 19 121 8) 20 122 6) 21 123 6) 22 124 36) := fr_cp r13 (by decide)
  have i15 : Inv (hf_cp (hf_cp (hf_cp (hf_cp (hf_cp (hf_cp (hf_up (hf_up (hf_up (hf_up (hf_up (hf_up φ 119 0 (φ 17 0)) 119 1 (φ 17 1)) 119 2 (φ 17 2)) 119 3 (φ 17 3)) 119 4 (φ 17 4)) 119 5 (φ 17 5)) 18 120 8) 19 121 8) 20 122 6) 21 123 6) 22 124 36) 23 125 6) := iv_cp i14 (by decide) (by decide +kernel)
  have r15 : Fr [120, 121, 122, 123, 124, 125, 126, 127, 120000, 120001, 120002, 120003, 120004, 120005] φ (hf_cp (hf_cp (hf_cp (hf_cp (hf_cp (hf_cp (hf_up (hf_up (hf_up (hf_up (hf_up (hf_up φ 119 0 (φ 17 0)) 119 1 (φ 17 1)) 119 2 (φ 17 2)) 119 3 (φ 17 3)) 119 4 (φ 17 4)) 119 5 (φ 17 5)) 18 120 8) 19 121 8) 20 122 6) 21 123 6) 22 124 36) 23 125 6) := fr_cp r14 (by decide)
  have i16 : Inv (hf_cp (hf_cp (hf_cp (hf_cp (hf_cp (hf_cp (hf_cp (hf_up (hf_up (hf_up (hf_up (hf_up (hf_up φ 119 0 (φ 17 0)) 119 1 (φ 17 1)) 119 2 (φ 17 2)) 119 3 (φ 17 3)) 119 4 (φ 17 4)) 119 5 (φ 17 5)) 18 120 8) 19 121 8) 20 122 6) 21 123 6) 22 124 36) 23 125 6) 24 126 6) := iv_cp i15 (by decide) (by decide +kernel)
  have r16 : Fr [120, 121, 122, 123, 124, 125, 126, 127, 120000, 120001, 120002, 120003, 120004, 120005] φ (hf_cp (hf_cp (hf_cp (hf_cp (hf_cp (hf_cp (hf_cp (hf_up (hf_up (hf_up (hf_up (hf_up (hf_up φ 119 0 (φ 17 0)) 119 1 (φ 17 1)) 119 2 (φ 17 2)) 119 3 (φ 17 3)) 119 4 (φ 17 4)) 119 5 (φ 17 5)) 18 120 8) 19 121 8) 20 122 6) 21 123 6) 22 124 36) 23 125 6) 24 126 6) := fr_cp r15 (by decide)
  have i17 : Inv (hf_cp (hf_cp (hf_cp (hf_cp (hf_cp (hf_cp (hf_cp (hf_cp (hf_up (hf_up (hf_up (hf_up (hf_up (hf_up φ 119 0 (φ 17 0)) 119 1 (φ 17 1)) 119 2 (φ 17 2)) 119 3 (φ 17 3)) 119 4 (φ 17 4)) 119 5 (φ 17 5)) 18 120 8) 19 121 8) 20 122 6) 21 123 6) 22 124 36) 23 125 6) 24 126 6) 25 127 8) := iv_cp i16 (by decide) (by decide +kernel)
  have r17 : Fr [120, 121, 122, 123, 124, 125, 126, 127, 120000, 120001, 120002, 120003, 120004, 120005] φ (hf_cp (hf_cp (hf_cp (hf_cp (hf_cp (hf_cp (hf_cp (hf_cp (hf_up (hf_up (hf_up (hf_up (hf_up (hf_up φ 119 0 (φ 17 0)) 119 1 (φ 17 1)) 119 2 (φ 17 2)) 119 3 (φ 17 3)) 119 4 (φ 17 4)) 119 5 (φ 17 5)) 18 120 8) 19 121 8) 20 122 6) 21 123 6) 22 124 36) 23 125 6) 24 126 6) 25 127 8) := fr_cp r16 (by decide)
  exact hQ (hf_cp (hf_cp (hf_cp (hf_cp (hf_cp (hf_cp (hf_cp (hf_cp (hf_up (hf_up (hf_up (hf_up (hf_up (hf_up φ 119 0 (φ 17 0)) 119 1 (φ 17 1)) 119 2 (φ 17 2)) 119 3 (φ 17 3)) 119 4 (φ 17 4)) 119 5 (φ 17 5)) 18 120 8) 19 121 8) 20 122 6) 21 123 6) 22 124 36) 23 125 6) 24 126 6) 25 127 8) i17 r17 e0
theorem sf_66_128_17_v {sc : List Int} {d : Nat} {φ : hf_F} {x : Nat} {Q : Option jm_V → hf_F → Nat → Prop} 
    (H : Q none (hf_cp (hf_cp (hf_cp (hf_cp (hf_cp (hf_cp (hf_cp (hf_cp (hf_up (hf_up (hf_up (hf_up (hf_up (hf_up φ 128 0 (φ 17 0)) 128 1 (φ 17 1)) 128 2 (φ 17 2)) 128 3 (φ 17 3)) 128 4 (φ 17 4)) 128 5 (φ 17 5)) 18 129 8) 19 130 8) 20 131 6) 21 132 6) 22 133 36) 23 134 6) 24 135 6) 25 136 8) x) :
    hw sc d 66 0 [(0, (2, 128)), (1, (2, 17))] [] φ x Q := by
  refine hw_ald (b := 0) (e := 0) (by decide +kernel) rfl (by decide) ?_
  refine hw_ald (b := 1) (e := 0) (by decide +kernel) rfl (by decide) ?_
  refine hr_gi (w := φ 17 0) (b := 4) (e := 0) 17 rfl (by decide +kernel) rfl ?_
  refine hr_pi (b := 4) (e := 0) 128 rfl (by decide +kernel) ?_
  refine hw_ald (b := 0) (e := 0) (by decide +kernel) rfl (by decide) ?_
  refine hw_ald (b := 1) (e := 0) (by decide +kernel) rfl (by decide) ?_
  refine hr_gi (w := φ 17 1) (b := 4) (e := 1) 17 rfl (by decide +kernel) (hf_up_ne (fun q => absurd q.1 (by decide))) ?_
  refine hr_pi (b := 4) (e := 1) 128 rfl (by decide +kernel) ?_
  refine hw_ald (b := 0) (e := 0) (by decide +kernel) rfl (by decide) ?_
  refine hw_ald (b := 1) (e := 0) (by decide +kernel) rfl (by decide) ?_
  refine hr_gi (w := φ 17 2) (b := 4) (e := 2) 17 rfl (by decide +kernel) ((hf_up_ne (fun q => absurd q.1 (by decide))).trans (hf_up_ne (fun q => absurd q.1 (by decide)))) ?_
  refine hr_pi (b := 4) (e := 2) 128 rfl (by decide +kernel) ?_
  refine hw_ald (b := 0) (e := 0) (by decide +kernel) rfl (by decide) ?_
  refine hw_ald (b := 1) (e := 0) (by decide +kernel) rfl (by decide) ?_
  refine hr_gi (w := φ 17 3) (b := 4) (e := 3) 17 rfl (by decide +kernel) ((hf_up_ne (fun q => absurd q.1 (by decide))).trans ((hf_up_ne (fun q => absurd q.1 (by decide))).trans (hf_up_ne (fun q => absurd q.1 (by decide))))) ?_
  refine hr_pi (b := 4) (e := 3) 128 rfl (by decide +kernel) ?_
  refine hw_ald (b := 0) (e := 0) (by decide +kernel) rfl (by decide) ?_
  refine hw_ald (b := 1) (e := 0) (by decide +kernel) rfl (by decide) ?_
  refine hr_gi (w := φ 17 4) (b := 4) (e := 4) 17 rfl (by decide +kernel) ((hf_up_ne (fun q => absurd q.1 (by decide))).trans ((hf_up_ne (fun q => absurd q.1 (by decide))).trans ((hf_up_ne (fun q => absurd q.1 (by decide))).trans (hf_up_ne (fun q => absurd q.1 (by decide)))))) ?_
  refine hr_pi (b := 4) (e := 4) 128 rfl (by decide +kernel) ?_
  refine hw_ald (b := 0) (e := 0) (by decide +kernel) rfl (by decide) ?_
  refine hw_ald (b := 1) (e := 0) (by decide +kernel) rfl (by decide) ?_
  refine hr_gi (w := φ 17 5) (b := 4) (e := 5) 17 rfl (by decide +kernel) ((hf_up_ne (fun q => absurd q.1 (by decide))).trans ((hf_up_ne (fun q => absurd q.1 (by decide))).trans ((hf_up_ne (fun q => absurd q.1 (by decide))).trans ((hf_up_ne (fun q => absurd q.1 (by decide))).trans (hf_up_ne (fun q => absurd q.1 (by decide))))))) ?_
  refine hr_pi (b := 4) (e := 5) 128 rfl (by decide +kernel) ?_
  refine hw_ald (b := 1) (e := 0) (by decide +kernel) rfl (by decide) ?_
  refine hr_gr (w := 18) (b := 4) (e := 6) 17 rfl (by decide +kernel) ?_
  refine hw_k (c := 0) (b := 0) (e := 1) (by decide +kernel) ?_
  refine hw_ald (b := 0) (e := 0) (by decide +kernel) rfl (by decide) ?_
  refine hr_gr (w := 129) (b := 4) (e := 6) 128 rfl (by decide +kernel) ?_
  refine hw_k (c := 0) (b := 0) (e := 1) (by decide +kernel) ?_
  refine hw_k (c := 8) (b := 1) (e := 2) (by decide +kernel) ?_
  refine hr_cp (a0 := 0) (b0 := 0) (e := 0) 18 129 8 rfl rfl rfl (by decide +kernel) (Nat.le_of_ble_eq_true rfl) ?_
  refine hw_ald (b := 1) (e := 0) (by decide +kernel) rfl (by decide) ?_
  refine hr_gr (w := 19) (b := 4) (e := 7) 17 rfl (by decide +kernel) ?_
  refine hw_k (c := 0) (b := 0) (e := 1) (by decide +kernel) ?_
  refine hw_ald (b := 0) (e := 0) (by decide +kernel) rfl (by decide) ?_
  refine hr_gr (w := 130) (b := 4) (e := 7) 128 rfl (by decide +kernel) ?_
  refine hw_k (c := 0) (b := 0) (e := 1) (by decide +kernel) ?_
  refine hw_k (c := 8) (b := 1) (e := 2) (by decide +kernel) ?_
  refine hr_cp (a0 := 0) (b0 := 0) (e := 0) 19 130 8 rfl rfl rfl (by decide +kernel) (Nat.le_of_ble_eq_true rfl) ?_
  refine hw_ald (b := 1) (e := 0) (by decide +kernel) rfl (by decide) ?_
  refine hr_gr (w := 20) (b := 4) (e := 8) 17 rfl (by decide +kernel) ?_
  refine hw_k (c := 0) (b := 0) (e := 1) (by decide +kernel) ?_
  refine hw_ald (b := 0) (e := 0) (by decide +kernel) rfl (by decide) ?_
  refine hr_gr (w := 131) (b := 4) (e := 8) 128 rfl (by decide +kernel) ?_
  refine hw_k (c := 0) (b := 0) (e := 1) (by decide +kernel) ?_
  refine hw_k (c := 6) (b := 1) (e := 2) (by decide +kernel) ?_
  refine hr_cp (a0 := 0) (b0 := 0) (e := 0) 20 131 6 rfl rfl rfl (by decide +kernel) (Nat.le_of_ble_eq_true rfl) ?_
  refine hw_ald (b := 1) (e := 0) (by decide +kernel) rfl (by decide) ?_
  refine hr_gr (w := 21) (b := 4) (e := 9) 17 rfl (by decide +kernel) ?_
  refine hw_k (c := 0) (b := 0) (e := 1) (by decide +kernel) ?_
  refine hw_ald (b := 0) (e := 0) (by decide +kernel) rfl (by decide) ?_
  refine hr_gr (w := 132) (b := 4) (e := 9) 128 rfl (by decide +kernel) ?_
  refine hw_k (c := 0) (b := 0) (e := 1) (by decide +kernel) ?_
  refine hw_k (c := 6) (b := 1) (e := 2) (by decide +kernel) ?_
  refine hr_cp (a0 := 0) (b0 := 0) (e := 0) 21 132 6 rfl rfl rfl (by decide +kernel) (Nat.le_of_ble_eq_true rfl) ?_
  refine hw_ald (b := 1) (e := 0) (by decide +kernel) rfl (by decide) ?_
  refine hr_gr (w := 22) (b := 4) (e := 10) 17 rfl (by decide +kernel) ?_
  refine hw_k (c := 0) (b := 0) (e := 1) (by decide +kernel) ?_
  refine hw_ald (b := 0) (e := 0) (by decide +kernel) rfl (by decide) ?_
  refine hr_gr (w := 133) (b := 4) (e := 10) 128 rfl (by decide +kernel) ?_
  refine hw_k (c := 0) (b := 0) (e := 1) (by decide +kernel) ?_
  refine hw_k (c := 36) (b := 1) (e := 2) (by decide +kernel) ?_
  refine hr_cp (a0 := 0) (b0 := 0) (e := 0) 22 133 36 rfl rfl rfl (by decide +kernel) (Nat.le_of_ble_eq_true rfl) ?_
  refine hw_ald (b := 1) (e := 0) (by decide +kernel) rfl (by decide) ?_
  refine hr_gr (w := 23) (b := 4) (e := 11) 17 rfl (by decide +kernel) ?_
  refine hw_k (c := 0) (b := 0) (e := 1) (by decide +kernel) ?_
  refine hw_ald (b := 0) (e := 0) (by decide +kernel) rfl (by decide) ?_
  refine hr_gr (w := 134) (b := 4) (e := 11) 128 rfl (by decide +kernel) ?_
  refine hw_k (c := 0) (b := 0) (e := 1) (by decide +kernel) ?_
  refine hw_k (c := 6) (b := 1) (e := 2) (by decide +kernel) ?_
  refine hr_cp (a0 := 0) (b0 := 0) (e := 0) 23 134 6 rfl rfl rfl (by decide +kernel) (Nat.le_of_ble_eq_true rfl) ?_
  refine hw_ald (b := 1) (e := 0) (by decide +kernel) rfl (by decide) ?_
  refine hr_gr (w := 24) (b := 4) (e := 12) 17 rfl (by decide +kernel) ?_
  refine hw_k (c := 0) (b := 0) (e := 1) (by decide +kernel) ?_
  refine hw_ald (b := 0) (e := 0) (by decide +kernel) rfl (by decide) ?_
  refine hr_gr (w := 135) (b := 4) (e := 12) 128 rfl (by decide +kernel) ?_
  refine hw_k (c := 0) (b := 0) (e := 1) (by decide +kernel) ?_
  refine hw_k (c := 6) (b := 1) (e := 2) (by decide +kernel) ?_
  refine hr_cp (a0 := 0) (b0 := 0) (e := 0) 24 135 6 rfl rfl rfl (by decide +kernel) (Nat.le_of_ble_eq_true rfl) ?_
  refine hw_ald (b := 1) (e := 0) (by decide +kernel) rfl (by decide) ?_
  refine hr_gr (w := 25) (b := 4) (e := 13) 17 rfl (by decide +kernel) ?_
  refine hw_k (c := 0) (b := 0) (e := 1) (by decide +kernel) ?_
  refine hw_ald (b := 0) (e := 0) (by decide +kernel) rfl (by decide) ?_
  refine hr_gr (w := 136) (b := 4) (e := 13) 128 rfl (by decide +kernel) ?_
  refine hw_k (c := 0) (b := 0) (e := 1) (by decide +kernel) ?_
  refine hw_k (c := 8) (b := 1) (e := 2) (by decide +kernel) ?_
  refine hr_cp (a0 := 0) (b0 := 0) (e := 0) 25 136 8 rfl rfl rfl (by decide +kernel) (Nat.le_of_ble_eq_true rfl) ?_
  exact hw_vret (a0 := 0) (e := 0) (by decide +kernel) H
theorem sf_66_128_17 {sc : List Int} {d : Nat} {φ : hf_F} {x : Nat} {Q : Option jm_V → hf_F → Nat → Prop}  (hI : Inv φ)  (hQ : ∀ ψ : hf_F, Inv ψ → Fr [129, 130, 131, 132, 133, 134, 135, 136, 129000, 129001, 129002, 129003, 129004, 129005] φ ψ → F_State_copyFrom_128_17 φ = ψ → Q none ψ x) : hw sc d 66 0 [(0, (2, 128)), (1, (2, 17))] [] φ x Q := by
  apply sf_66_128_17_v
  have e0 : F_State_copyFrom_128_17 φ = _ := rfl
  have i1 : Inv (hf_up φ 128 0 (φ 17 0)) := iv_upn hI (by decide) (by decide) (by decide +kernel)
  have r1 : Fr [129, 130, 131, 132, 133, 134, 135, 136, 129000, 129001, 129002, 129003, 129004, 129005] φ (hf_up φ 128 0 (φ 17 0)) := fr_up (fr_rf) (by decide)
  have f2 := iv_at (a := 17) (k := 1) (lo := (-1 : Int)) (u := 7) hI (by decide +kernel)
  have i3 : Inv (hf_up (hf_up φ 128 0 (φ 17 0)) 128 1 (φ 17 1)) := iv_up (lo := (-1 : Int)) (u := 7) i1 (by decide +kernel) (by omega) (by omega)
  have r3 : Fr [129, 130, 131, 132, 133, 134, 135, 136, 129000, 129001, 129002, 129003, 129004, 129005] φ (hf_up (hf_up φ 128 0 (φ 17 0)) 128 1 (φ 17 1)) := fr_up r1 (by decide)
  have f4 := iv_at (a := 17) (k := 2) (lo := (-1 : Int)) (u := 5) hI (by decide +kernel)
  have i5 : Inv (hf_up (hf_up (hf_up φ 128 0 (φ 17 0)) 128 1 (φ 17 1)) 128 2 (φ 17 2)) := iv_up (lo := (-1 : Int)) (u := 5) i3 (by decide +kernel) (by omega) (by omega)
  have r5 : Fr [129, 130, 131, 132, 133, 134, 135, 136, 129000, 129001, 129002, 129003, 129004, 129005] φ (hf_up (hf_up (hf_up φ 128 0 (φ 17 0)) 128 1 (φ 17 1)) 128 2 (φ 17 2)) := fr_up r3 (by decide)
  have f6 := iv_at (a := 17) (k := 3) (lo := (-2147483648 : Int)) (u := 2147483647) hI (by decide +kernel)
  have i7 : Inv (hf_up (hf_up (hf_up (hf_up φ 128 0 (φ 17 0)) 128 1 (φ 17 1)) 128 2 (φ 17 2)) 128 3 (φ 17 3)) := iv_up (lo := (-2147483648 : Int)) (u := 2147483647) i5 (by decide +kernel) (by omega) (by omega)
  have r7 : Fr [129, 130, 131, 132, 133, 134, 135, 136, 129000, 129001, 129002, 129003, 129004, 129005] φ (hf_up (hf_up (hf_up (hf_up φ 128 0 (φ 17 0)) 128 1 (φ 17 1)) 128 2 (φ 17 2)) 128 3 (φ 17 3)) := fr_up r5 (by decide)
  have i8 : Inv (hf_up (hf_up (hf_up (hf_up (hf_up φ 128 0 (φ 17 0)) 128 1 (φ 17 1)) 128 2 (φ 17 2)) 128 3 (φ 17 3)) 128 4 (φ 17 4)) := iv_upn i7 (by decide) (by decide) (by decide +kernel)
  have r8 : Fr [129, 130, 131, 132, 133, 134, 135, 136, 129000, 129001, 129002, 129003, 129004, 129005] φ (hf_up (hf_up (hf_up (hf_up (hf_up φ 128 0 (φ 17 0)) 128 1 (φ 17 1)) 128 2 (φ 17 2)) 128 3 (φ 17 3)) 128 4 (φ 17 4)) := fr_up r7 (by decide)
  have i9 : Inv (hf_up (hf_up (hf_up (hf_up (hf_up (hf_up φ 128 0 (φ 17 0)) 128 1 (φ 17 1)) 128 2 (φ 17 2)) 128 3 (φ 17 3)) 128 4 (φ 17 4)) 128 5 (φ 17 5)) := iv_upn i8 (by decide) (by decide) (by decide +kernel)
  have r9 : Fr [129, 130, 131, 132, 133, 134, 135, 136, 129000, 129001, 129002, 129003, 129004, 129005] φ (hf_up (hf_up (hf_up (hf_up (hf_up (hf_up φ 128 0 (φ 17 0)) 128 1 (φ 17 1)) 128 2 (φ 17 2)) 128 3 (φ 17 3)) 128 4 (φ 17 4)) 128 5 (φ 17 5)) := fr_up r8 (by decide)
  have i10 : Inv (hf_cp (hf_up (hf_up (hf_up (hf_up (hf_up (hf_up φ 128 0 (φ 17 0)) 128 1 (φ 17 1)) 128 2 (φ 17 2)) 128 3 (φ 17 3)) 128 4 (φ 17 4)) 128 5 (φ 17 5)) 18 129 8) := iv_cp i9 (by decide) (by decide +kernel)
  have r10 : Fr [129, 130, 131, 132, 133, 134, 135, 136, 129000, 129001, 129002, 129003, 129004, 129005] φ (hf_cp (hf_up (hf_up (hf_up (hf_up (hf_up (hf_up φ 128 0 (φ 17 0)) 128 1 (φ 17 1)) 128 2 (φ 17 2)) 128 3 (φ 17 3)) 128 4 (φ 17 4)) 128 5 (φ 17 5)) 18 129 8) := fr_cp r9 (by decide)
  have i11 : Inv (hf_cp (hf_cp (hf_up (hf_up (hf_up (hf_up (hf_up (hf_up φ 128 0 (φ 17 0)) 128 1 (φ 17 1)) 128 2 (φ 17 2)) 128 3 (φ 17 3)) 128 4 (φ 17 4)) 128 5 (φ 17 5)) 18 129 8) 19 130 8) := iv_cp i10 (by decide) (by decide +kernel)
  have r11 : Fr [129, 130, 131, 132, 133, 134, 135, 136, 129000, 129001, 129002, 129003, 129004, 129005] φ (hf_cp (hf_cp (hf_up (hf_up (hf_up (hf_up (hf_up (hf_up φ 128 0 (φ 17 0)) 128 1 (φ 17 1)) 128 2 (φ 17 2)) 128 3 (φ 17 3)) 128 4 (φ 17 4)) 128 5 (φ 17 5)) 18 129 8) 19 130 8) := fr_cp r10 (by decide)
  have i12 : Inv (hf_cp (hf_cp (hf_cp (hf_up (hf_up (hf_up (hf_up (hf_up (hf_up φ 128 0 (φ 17 0)) 128 1 (φ 17 1)) 128 2 (φ 17 2)) 128 3 (φ 17 3)) 128 4 (φ 17 4)) 128 5 (φ 17 5)) 18 129 8) 19 130 8) 20 131 6) := iv_cp i11 (by decide) (by decide +kernel)
  have r12 : Fr [129, 130, 131, 132, 133, 134, 135, 136, 129000, 129001, 129002, 129003, 129004, 129005] φ (hf_cp (hf_cp (hf_cp (hf_up (hf_up (hf_up (hf_up (hf_up (hf_up φ 128 0 (φ 17 0)) 128 1 (φ 17 1)) 128 2 (φ 17 2)) 128 3 (φ 17 3)) 128 4 (φ 17 4)) 128 5 (φ 17 5)) 18 129 8) 19 130 8) 20 131 6) := fr_cp r11 (by decide)
  have i13 : Inv (hf_cp (hf_cp (hf_cp (hf_cp (hf_up (hf_up (hf_up (hf_up (hf_up (hf_up φ 128 0 (φ 17 0)) 128 1 (φ 17 1)) 128 2 (φ 17 2)) 128 3 (φ 17 3)) 128 4 (φ 17 4)) 128 5 (φ 17 5)) 18 129 8) 19 130 8) 20 131 6) 21 132 6) := iv_cp i12 (by decide) (by decide +kernel)
  have r13 : Fr [129, 130, 131, 132, 133, 134, 135, 136, 129000, 129001, 129002, 129003, 129004, 129005] φ (hf_cp (hf_cp (hf_cp (hf_cp (hf_up (hf_up (hf_up (hf_up (hf_up (hf_up φ 128 0 (φ 17 0)) 128 1 (φ 17 1)) 128 2 (φ 17 2)) 128 3 (φ 17 3)) 128 4 (φ 17 4)) 128 5 (φ 17 5)) 18 129 8) 19 130 8) 20 131 6) 21 132 6) := fr_cp r12 (by decide)
  have i14 : Inv (hf_cp (hf_cp (hf_cp (hf_cp (hf_cp (hf_up (hf_up (hf_up (hf_up (hf_up (hf_up φ 128 0 (φ 17 0)) 128 1 (φ 17 1)) 128 2 (φ 17 2)) 128 3 (φ 17 3)) 128 4 (φ 17 4)) 128 5 (φ 17 5)) 18 129 8) 19 130 8) 20 131 6) 21 132 6) 22 133 36) := iv_cp i13 (by decide) (by decide +kernel)
  have r14 : Fr [129, 130, 131, 132, 133, 134, 135, 136, 129000, 129001, 129002, 129003, 129004, 129005] φ (hf_cp (hf_cp (hf_cp (hf_cp (hf_cp (hf_up (hf_up (hf_up (hf_up (hf_up (hf_up φ 128 0 (φ 17 0)) 128 1 (φ 17 1)) 128 2 (φ 17 2)) 128 3 (φ 17 3)) 128 4 (φ 17 4)) 128 5 (φ 17 5)) 18 129 8) 19 130 8) 20 131 6) 21 132 6) 22 133 36) := fr_cp r13 (by decide)
  have i15 : Inv (hf_cp (hf_cp (hf_cp (hf_cp (hf_cp (hf_cp (hf_up (hf_up (hf_up (hf_up (hf_up (hf_up φ 128 0 (φ 17 0)) 128 1 (φ 17 1)) 128 2 (φ 17 2)) 128 3 (φ 17 3)) 128 4 (φ 17 4)) 128 5 (φ 17 5)) 18 129 8) 19 130 8) 20 131 6) 21 132 6) 22 133 36) 23 134 6) := iv_cp i14 (by decide) (by decide +kernel)
  have r15 : Fr [129, 130, 131, 132, 133, 134, 135, 136, 129000, 129001, 129002, 129003, 129004, 129005] φ (hf_cp (hf_cp (hf_cp (hf_cp (hf_cp (hf_cp (hf_up (hf_up (hf_up (hf_up (hf_up (hf_up φ 128 0 (φ 17 0)) 128 1 (φ 17 1)) 128 2 (φ 17 2)) 128 3 (φ 17 3)) 128 4 (φ 17 4)) 128 5 (φ 17 5)) 18 129 8) 19 130 8) 20 131 6) 21 132 6) 22 133 36) 23 134 6) := fr_cp r14 (by decide)
  have i16 : Inv (hf_cp (hf_cp (hf_cp (hf_cp (hf_cp (hf_cp (hf_cp (hf_up (hf_up (hf_up (hf_up (hf_up (hf_up φ 128 0 (φ 17 0)) 128 1 (φ 17 1)) 128 2 (φ 17 2)) 128 3 (φ 17 3)) 128 4 (φ 17 4)) 128 5 (φ 17 5)) 18 129 8) 19 130 8) 20 131 6) 21 132 6) 22 133 36) 23 134 6) 24 135 6) := iv_cp i15 (by decide) (by decide +kernel)
  have r16 : Fr [129, 130, 131, 132, 133, 134, 135, 136, 129000, 129001, 129002, 129003, 129004, 129005] φ (hf_cp (hf_cp (hf_cp (hf_cp (hf_cp (hf_cp (hf_cp (hf_up (hf_up (hf_up (hf_up (hf_up (hf_up φ 128 0 (φ 17 0)) 128 1 (φ 17 1)) 128 2 (φ 17 2)) 128 3 (φ 17 3)) 128 4 (φ 17 4)) 128 5 (φ 17 5)) 18 129 8) 19 130 8) 20 131 6) 21 132 6) 22 133 36) 23 134 6) 24 135 6) := fr_cp r15 (by decide)
  have i17 : Inv (hf_cp (hf_cp (hf_cp (hf_cp (hf_cp (hf_cp (hf_cp (hf_cp (hf_up (hf_up (hf_up (hf_up (hf_up (hf_up φ 128 0 (φ 17 0)) 128 1 (φ 17 1)) 128 2 (φ 17 2)) 128 3 (φ 17 3)) 128 4 (φ 17 4)) 128 5 (φ 17 5)) 18 129 8) 19 130 8) 20 131 6) 21 132 6) 22 133 36) 23 134 6) 24 135 6) 25 136 8) := iv_cp i16 (by decide) (by decide +kernel)
  have r17 : Fr [129, 130, 131, 132, 133, 134, 135, 136, 129000, 129001, 129002, 129003, 129004, 129005] φ (hf_cp (hf_cp (hf_cp (hf_cp (hf_cp (hf_cp (hf_cp (hf_cp (hf_up (hf_up (hf_up (hf_up (hf_up (hf_up φ 128 0 (φ 17 0)) 128 1 (φ 17 1)) 128 2 (φ 17 2)) 128 3 (φ 17 3)) 128 4 (φ 17 4)) 128 5 (φ 17 5)) 18 129 8) 19 130 8) 20 131 6) 21 132 6) 22 133 36) 23 134 6) 24 135 6) 25 136 8) := fr_cp r16 (by decide)
  exact hQ (hf_cp (hf_cp (hf_cp (hf_cp (hf_cp (hf_cp (hf_cp (hf_cp (hf_up (hf_up (hf_up (hf_up (hf_up (hf_up φ 128 0 (φ 17 0)) 128 1 (φ 17 1)) 128 2 (φ 17 2)) 128 3 (φ 17 3)) 128 4 (φ 17 4)) 128 5 (φ 17 5)) 18 129 8) 19 130 8) 20 131 6) 21 132 6) 22 133 36) 23 134 6) 24 135 6) 25 136 8) i17 r17 e0
theorem sf_66_137_17_v {sc : List Int} {d : Nat} {φ : hf_F} {x : Nat} {Q : Option jm_V → hf_F → Nat → Prop} 
    (H : Q none (hf_cp (hf_cp (hf_cp (hf_cp (hf_cp (hf_cp (hf_cp (hf_cp (hf_up (hf_up (hf_up (hf_up (hf_up (hf_up φ 137 0 (φ 17 0)) 137 1 (φ 17 1)) 137 2 (φ 17 2)) 137 3 (φ 17 3)) 137 4 (φ 17 4)) 137 5 (φ 17 5)) 18 138 8) 19 139 8) 20 140 6) 21 141 6) 22 142 36) 23 143 6) 24 144 6) 25 145 8) x) :
    hw sc d 66 0 [(0, (2, 137)), (1, (2, 17))] [] φ x Q := by
  refine hw_ald (b := 0) (e := 0) (by decide +kernel) rfl (by decide) ?_
  refine hw_ald (b := 1) (e := 0) (by decide +kernel) rfl (by decide) ?_
  refine hr_gi (w := φ 17 0) (b := 4) (e := 0) 17 rfl (by decide +kernel) rfl ?_
  refine hr_pi (b := 4) (e := 0) 137 rfl (by decide +kernel) ?_
  refine hw_ald (b := 0) (e := 0) (by decide +kernel) rfl (by decide) ?_
  refine hw_ald (b := 1) (e := 0) (by decide +kernel) rfl (by decide) ?_
  refine hr_gi (w := φ 17 1) (b := 4) (e := 1) 17 rfl (by decide +kernel) (hf_up_ne (fun q => absurd q.1 (by decide))) ?_
  refine hr_pi (b := 4) (e := 1) 137 rfl (by decide +kernel) ?_
  refine hw_ald (b := 0) (e := 0) (by decide +kernel) rfl (by decide) ?_
  refine hw_ald (b := 1) (e := 0) (by decide +kernel) rfl (by decide) ?_
  refine hr_gi (w := φ 17 2) (b := 4) (e := 2) 17 rfl (by decide +kernel) ((hf_up_ne (fun q => absurd q.1 (by decide))).trans (hf_up_ne (fun q => absurd q.1 (by decide)))) ?_
  refine hr_pi (b := 4) (e := 2) 137 rfl (by decide +kernel) ?_
  refine hw_ald (b := 0) (e := 0) (by decide +kernel) rfl (by decide) ?_
  refine hw_ald (b := 1) (e := 0) (by decide +kernel) rfl (by decide) ?_
  refine hr_gi (w := φ 17 3) (b := 4) (e := 3) 17 rfl (by decide +kernel) ((hf_up_ne (fun q => absurd q.1 (by decide))).trans ((hf_up_ne (fun q => absurd q.1 (by decide))).trans (hf_up_ne (fun q => absurd q.1 (by decide))))) ?_
  refine hr_pi (b := 4) (e := 3) 137 rfl (by decide +kernel) ?_
  refine hw_ald (b := 0) (e := 0) (by decide +kernel) rfl (by decide) ?_
  refine hw_ald (b := 1) (e := 0) (by decide +kernel) rfl (by decide) ?_
  refine hr_gi (w := φ 17 4) (b := 4) (e := 4) 17 rfl (by decide +kernel) ((hf_up_ne (fun q => absurd q.1 (by decide))).trans ((hf_up_ne (fun q => absurd q.1 (by decide))).trans ((hf_up_ne (fun q => absurd q.1 (by decide))).trans (hf_up_ne (fun q => absurd q.1 (by decide)))))) ?_
  refine hr_pi (b := 4) (e := 4) 137 rfl (by decide +kernel) ?_
  refine hw_ald (b := 0) (e := 0) (by decide +kernel) rfl (by decide) ?_
  refine hw_ald (b := 1) (e := 0) (by decide +kernel) rfl (by decide) ?_
  refine hr_gi (w := φ 17 5) (b := 4) (e := 5) 17 rfl (by decide +kernel) ((hf_up_ne (fun q => absurd q.1 (by decide))).trans ((hf_up_ne (fun q => absurd q.1 (by decide))).trans ((hf_up_ne (fun q => absurd q.1 (by decide))).trans ((hf_up_ne (fun q => absurd q.1 (by decide))).trans (hf_up_ne (fun q => absurd q.1 (by decide))))))) ?_
  refine hr_pi (b := 4) (e := 5) 137 rfl (by decide +kernel) ?_
  refine hw_ald (b := 1) (e := 0) (by decide +kernel) rfl (by decide) ?_
  refine hr_gr (w := 18) (b := 4) (e := 6) 17 rfl (by decide +kernel) ?_
  refine hw_k (c := 0) (b := 0) (e := 1) (by decide +kernel) ?_
  refine hw_ald (b := 0) (e := 0) (by decide +kernel) rfl (by decide) ?_
  refine hr_gr (w := 138) (b := 4) (e := 6) 137 rfl (by decide +kernel) ?_
  refine hw_k (c := 0) (b := 0) (e := 1) (by decide +kernel) ?_
  refine hw_k (c := 8) (b := 1) (e := 2) (by decide +kernel) ?_
  refine hr_cp (a0 := 0) (b0 := 0) (e := 0) 18 138 8 rfl rfl rfl (by decide +kernel) (Nat.le_of_ble_eq_true rfl) ?_
  refine hw_ald (b := 1) (e := 0) (by decide +kernel) rfl (by decide) ?_
  refine hr_gr (w := 19) (b := 4) (e := 7) 17 rfl (by decide +kernel) ?_
  refine hw_k (c := 0) (b := 0) (e := 1) (by decide +kernel) ?_
  refine hw_ald (b := 0) (e := 0) (by decide +kernel) rfl (by decide) ?_
  refine hr_gr (w := 139) (b := 4) (e := 7) 137 rfl (by decide +kernel) ?_
  refine hw_k (c := 0) (b := 0) (e := 1) (by decide +kernel) ?_
  refine hw_k (c := 8) (b := 1) (e := 2) (by decide +kernel) ?_
  refine hr_cp (a0 := 0) (b0 := 0) (e := 0) 19 139 8 rfl rfl rfl (by decide +kernel) (Nat.le_of_ble_eq_true rfl) ?_
  refine hw_ald (b := 1) (e := 0) (by decide +kernel) rfl (by decide) ?_
  refine hr_gr (w := 20) (b := 4) (e := 8) 17 rfl (by decide +kernel) ?_
  refine hw_k (c := 0) (b := 0) (e := 1) (by decide +kernel) ?_
  refine hw_ald (b := 0) (e := 0) (by decide +kernel) rfl (by decide) ?_
  refine hr_gr (w := 140) (b := 4) (e := 8) 137 rfl (by decide +kernel) ?_
  refine hw_k (c := 0) (b := 0) (e := 1) (by decide +kernel) ?_
  refine hw_k (c := 6) (b := 1) (e := 2) (by decide +kernel) ?_
  refine hr_cp (a0 := 0) (b0 := 0) (e := 0) 20 140 6 rfl rfl rfl (by decide +kernel) (Nat.le_of_ble_eq_true rfl) ?_
  refine hw_ald (b := 1) (e := 0) (by decide +kernel) rfl (by decide) ?_
  refine hr_gr (w := 21) (b := 4) (e := 9) 17 rfl (by decide +kernel) ?_
  refine hw_k (c := 0) (b := 0) (e := 1) (by decide +kernel) ?_
  refine hw_ald (b := 0) (e := 0) (by decide +kernel) rfl (by decide) ?_
  refine hr_gr (w := 141) (b := 4) (e := 9) 137 rfl (by decide +kernel) ?_
  refine hw_k (c := 0) (b := 0) (e := 1) (by decide +kernel) ?_
  refine hw_k (c := 6) (b := 1) (e := 2) (by decide +kernel) ?_
  refine hr_cp (a0 := 0) (b0 := 0) (e := 0) 21 141 6 rfl rfl rfl (by decide +kernel) (Nat.le_of_ble_eq_true rfl) ?_
  refine hw_ald (b := 1) (e := 0) (by decide +kernel) rfl (by decide) ?_
  refine hr_gr (w := 22) (b := 4) (e := 10) 17 rfl (by decide +kernel) ?_
  refine hw_k (c := 0) (b := 0) (e := 1) (by decide +kernel) ?_
  refine hw_ald (b := 0) (e := 0) (by decide +kernel) rfl (by decide) ?_
  refine hr_gr (w := 142) (b := 4) (e := 10) 137 rfl (by decide +kernel) ?_
  refine hw_k (c := 0) (b := 0) (e := 1) (by decide +kernel) ?_
  refine hw_k (c := 36) (b := 1) (e := 2) (by decide +kernel) ?_
  refine hr_cp (a0 := 0) (b0 := 0) (e := 0) 22 142 36 rfl rfl rfl (by decide +kernel) (Nat.le_of_ble_eq_true rfl) ?_
  refine hw_ald (b := 1) (e := 0) (by decide +kernel) rfl (by decide) ?_
  refine hr_gr (w := 23) (b := 4) (e := 11) 17 rfl (by decide +kernel) ?_
  refine hw_k (c := 0) (b := 0) (e := 1) (by decide +kernel) ?_
  refine hw_ald (b := 0) (e := 0) (by decide +kernel) rfl (by decide) ?_
  refine hr_gr (w := 143) (b := 4) (e := 11) 137 rfl (by decide +kernel) ?_
  refine hw_k (c := 0) (b := 0) (e := 1) (by decide +kernel) ?_
  refine hw_k (c := 6) (b := 1) (e := 2) (by decide +kernel) ?_
  refine hr_cp (a0 := 0) (b0 := 0) (e := 0) 23 143 6 rfl rfl rfl (by decide +kernel) (Nat.le_of_ble_eq_true rfl) ?_
  refine hw_ald (b := 1) (e := 0) (by decide +kernel) rfl (by decide) ?_
  refine hr_gr (w := 24) (b := 4) (e := 12) 17 rfl (by decide +kernel) ?_
  refine hw_k (c := 0) (b := 0) (e := 1) (by decide +kernel) ?_
  refine hw_ald (b := 0) (e := 0) (by decide +kernel) rfl (by decide) ?_
  refine hr_gr (w := 144) (b := 4) (e := 12) 137 rfl (by decide +kernel) ?_
  refine hw_k (c := 0) (b := 0) (e := 1) (by decide +kernel) ?_
  refine hw_k (c := 6) (b := 1) (e := 2) (by decide +kernel) ?_
  refine hr_cp (a0 := 0) (b0 := 0) (e := 0) 24 144 6 rfl rfl rfl (by decide +kernel) (Nat.le_of_ble_eq_true rfl) ?_
  refine hw_ald (b := 1) (e := 0) (by decide +kernel) rfl (by decide) ?_
  refine hr_gr (w := 25) (b := 4) (e := 13) 17 rfl (by decide +kernel) ?_
  refine hw_k (c := 0) (b := 0) (e := 1) (by decide +kernel) ?_
  refine hw_ald (b := 0) (e := 0) (by decide +kernel) rfl (by decide) ?_
  refine hr_gr (w := 145) (b := 4) (e := 13) 137 rfl (by decide +kernel) ?_
  refine hw_k (c := 0) (b := 0) (e := 1) (by decide +kernel) ?_
  refine hw_k (c := 8) (b := 1) (e := 2) (by decide +kernel) ?_
  refine hr_cp (a0 := 0) (b0 := 0) (e := 0) 25 145 8 rfl rfl rfl (by decide +kernel) (Nat.le_of_ble_eq_true rfl) ?_
  exact hw_vret (a0 := 0) (e := 0) (by decide +kernel) H
theorem sf_66_137_17 {sc : List Int} {d : Nat} {φ : hf_F} {x : Nat} {Q : Option jm_V → hf_F → Nat → Prop}  (hI : Inv φ)  (hQ : ∀ ψ : hf_F, Inv ψ → Fr [138, 139, 140, 141, 142, 143, 144, 145, 138000, 138001, 138002, 138003, 138004, 138005] φ ψ → F_State_copyFrom_137_17 φ = ψ → Q none ψ x) : hw sc d 66 0 [(0, (2, 137)), (1, (2, 17))] [] φ x Q := by
  apply sf_66_137_17_v
  have e0 : F_State_copyFrom_137_17 φ = _ := rfl
  have i1 : Inv (hf_up φ 137 0 (φ 17 0)) := iv_upn hI (by decide) (by decide) (by decide +kernel)
  have r1 : Fr [138, 139, 140, 141, 142, 143, 144, 145, 138000, 138001, 138002, 138003, 138004, 138005] φ (hf_up φ 137 0 (φ 17 0)) := fr_up (fr_rf) (by decide)
  have f2 := iv_at (a := 17) (k := 1) (lo := (-1 : Int)) (u := 7) hI (by decide +kernel)
  have i3 : Inv (hf_up (hf_up φ 137 0 (φ 17 0)) 137 1 (φ 17 1)) := iv_up (lo := (-1 : Int)) (u := 7) i1 (by decide +kernel) (by omega) (by omega)
  have r3 : Fr [138, 139, 140, 141, 142, 143, 144, 145, 138000, 138001, 138002, 138003, 138004, 138005] φ (hf_up (hf_up φ 137 0 (φ 17 0)) 137 1 (φ 17 1)) := fr_up r1 (by decide)
  have f4 := iv_at (a := 17) (k := 2) (lo := (-1 : Int)) (u := 5) hI (by decide +kernel)
  have i5 : Inv (hf_up (hf_up (hf_up φ 137 0 (φ 17 0)) 137 1 (φ 17 1)) 137 2 (φ 17 2)) := iv_up (lo := (-1 : Int)) (u := 5) i3 (by decide +kernel) (by omega) (by omega)
  have r5 : Fr [138, 139, 140, 141, 142, 143, 144, 145, 138000, 138001, 138002, 138003, 138004, 138005] φ (hf_up (hf_up (hf_up φ 137 0 (φ 17 0)) 137 1 (φ 17 1)) 137 2 (φ 17 2)) := fr_up r3 (by decide)
  have f6 := iv_at (a := 17) (k := 3) (lo := (-2147483648 : Int)) (u := 2147483647) hI (by decide +kernel)
  have i7 : Inv (hf_up (hf_up (hf_up (hf_up φ 137 0 (φ 17 0)) 137 1 (φ 17 1)) 137 2 (φ 17 2)) 137 3 (φ 17 3)) := iv_up (lo := (-2147483648 : Int)) (u := 2147483647) i5 (by decide +kernel) (by omega) (by omega)
  have r7 : Fr [138, 139, 140, 141, 142, 143, 144, 145, 138000, 138001, 138002, 138003, 138004, 138005] φ (hf_up (hf_up (hf_up (hf_up φ 137 0 (φ 17 0)) 137 1 (φ 17 1)) 137 2 (φ 17 2)) 137 3 (φ 17 3)) := fr_up r5 (by decide)
  have i8 : Inv (hf_up (hf_up (hf_up (hf_up (hf_up φ 137 0 (φ 17 0)) 137 1 (φ 17 1)) 137 2 (φ 17 2)) 137 3 (φ 17 3)) 137 4 (φ 17 4)) := iv_upn i7 (by decide) (by decide) (by decide +kernel)
  have r8 : Fr [138, 139, 140, 141, 142, 143, 144, 145, 138000, 138001, 138002, 138003, 138004, 138005] φ (hf_up (hf_up (hf_up (hf_up (hf_up φ 137 0 (φ 17 0)) 137 1 (φ 17 1)) 137 2 (φ 17 2)) 137 3 (φ 17 3)) 137 4 (φ 17 4)) := fr_up r7 (by decide)
  have i9 : Inv (hf_up (hf_up (hf_up (hf_up (hf_up (hf_up φ 137 0 (φ 17 0)) 137 1 (φ 17 1)) 137 2 (φ 17 2)) 137 3 (φ 17 3)) 137 4 (φ 17 4)) 137 5 (φ 17 5)) := iv_upn i8 (by decide) (by decide) (by decide +kernel)
  have r9 : Fr [138, 139, 140, 141, 142, 143, 144, 145, 138000, 138001, 138002, 138003, 138004, 138005] φ (hf_up (hf_up (hf_up (hf_up (hf_up (hf_up φ 137 0 (φ 17 0)) 137 1 (φ 17 1)) 137 2 (φ 17 2)) 137 3 (φ 17 3)) 137 4 (φ 17 4)) 137 5 (φ 17 5)) := fr_up r8 (by decide)
  have i10 : Inv (hf_cp (hf_up (hf_up (hf_up (hf_up (hf_up (hf_up φ 137 0 (φ 17 0)) 137 1 (φ 17 1)) 137 2 (φ 17 2)) 137 3 (φ 17 3)) 137 4 (φ 17 4)) 137 5 (φ 17 5)) 18 138 8) := iv_cp i9 (by decide) (by decide +kernel)
  have r10 : Fr [138, 139, 140, 141, 142, 143, 144, 145, 138000, 138001, 138002, 138003, 138004, 138005] φ (hf_cp (hf_up (hf_up (hf_up (hf_up (hf_up (hf_up φ 137 0 (φ 17 0)) 137 1 (φ 17 1)) 137 2 (φ 17 2)) 137 3 (φ 17 3)) 137 4 (φ 17 4)) 137 5 (φ 17 5)) 18 138 8) := fr_cp r9 (by decide)
  have i11 : Inv (hf_cp (hf_cp (hf_up (hf_up (hf_up (hf_up (hf_up (hf_up φ 137 0 (φ 17 0)) 137 1 (φ 17 1)) 137 2 (φ 17 2)) 137 3 (φ 17 3)) 137 4 (φ 17 4)) 137 5 (φ 17 5)) 18 138 8) 19 139 8) := iv_cp i10 (by decide) (by decide +kernel)
  have r11 : Fr [138, 139, 140, 141, 142, 143, 144, 145, 138000, 138001, 138002, 138003, 138004, 138005] φ (hf_cp (hf_cp (hf_up (hf_up (hf_up (hf_up (hf_up (hf_up φ 137 0 (φ 17 0)) 137 1 (φ 17 1)) 137 2 (φ 17 2)) 137 3 (φ 17 3)) 137 4 (φ 17 4)) 137 5 (φ 17 5)) 18 138 8) 19 139 8) := fr_cp r10 (by decide)
  have i12 : Inv (hf_cp (hf_cp (hf_cp (hf_up (hf_up (hf_up (hf_up (hf_up (hf_up φ 137 0 (φ 17 0)) 137 1 (φ 17 1)) 137 2 (φ 17 2)) 137 3 (φ 17 3)) 137 4 (φ 17 4)) 137 5 (φ 17 5)) 18 138 8) 19 139 8) 20 140 6) := iv_cp i11 (by decide) (by decide +kernel)
  have r12 : Fr [138, 139, 140, 141, 142, 143, 144, 145, 138000, 138001, 138002, 138003, 138004, 138005] φ (hf_cp (hf_cp (hf_cp (hf_up (hf_up (hf_up (hf_up (hf_up (hf_up φ 137 0 (φ 17 0)) 137 1 (φ 17 1)) 137 2 (φ 17 2)) 137 3 (φ 17 3)) 137 4 (φ 17 4)) 137 5 (φ 17 5)) 18 138 8) 19 139 8) 20 140 6) := fr_cp r11 (by decide)
  have i13 : Inv (hf_cp (hf_cp (hf_cp (hf_cp (hf_up (hf_up (hf_up (hf_up (hf_up (hf_up φ 137 0 (φ 17 0)) 137 1 (φ 17 1)) 137 2 (φ 17 2)) 137 3 (φ 17 3)) 137 4 (φ 17 4)) 137 5 (φ 17 5)) 18 138 8) 19 139 8) 20 140 6) 21 141 6) := iv_cp i12 (by decide) (by decide +kernel)
  have r13 : Fr [138, 139, 140, 141, 142, 143, 144, 145, 138000, 138001, 138002, 138003, 138004, 138005] φ (hf_cp (hf_cp (hf_cp (hf_cp (hf_up (hf_up (hf_up (hf_up (hf_up (hf_up φ 137 0 (φ 17 0)) 137 1 (φ 17 1)) 137 2 (φ 17 2)) 137 3 (φ 17 3)) 137 4 (φ 17 4)) 137 5 (φ 17 5)) 18 138 8) 19 139 8) 20 140 6) 21 141 6) := fr_cp r12 (by decide)
  have i14 : Inv (hf_cp (hf_cp (hf_cp (hf_cp (hf_cp (hf_up (hf_up (hf_up (hf_up (hf_up (hf_up φ 137 0 (φ 17 0)) 137 1 (φ 17 1)) 137 2 (φ 17 2)) 137 3 (φ 17 3)) 137 4 (φ 17 4)) 137 5 (φ 17 5)) 18 138 8) 19 139 8) 20 140 6) 21 141 6) 22 142 36) := iv_cp i13 (by decide) (by decide +kernel)
  have r14 : Fr [138, 139, 140, 141, 142, 143, 144, 145, 138000, 138001, 138002, 138003, 138004, 138005] φ (hf_cp (hf_cp (hf_cp (hf_cp (hf_cp (hf_up (hf_up (hf_up (hf_up (hf_up (hf_up φ 137 0 (φ 17 0)) 137 1 (φ 17 1)) 137 2 (φ 17 2)) 137 3 (φ 17 3)) 137 4 (φ 17 4)) 137 5 (φ 17 5)) 18 138 8) 19 139 8) 20 140 6) 21 141 6) 22 142 36) := fr_cp r13 (by decide)
  have i15 : Inv (hf_cp (hf_cp (hf_cp (hf_cp (hf_cp (hf_cp (hf_up (hf_up (hf_up (hf_up (hf_up (hf_up φ 137 0 (φ 17 0)) 137 1 (φ 17 1)) 137 2 (φ 17 2)) 137 3 (φ 17 3)) 137 4 (φ 17 4)) 137 5 (φ 17 5)) 18 138 8) 19 139 8) 20 140 6) 21 141 6) 22 142 36) 23 143 6) := iv_cp i14 (by decide) (by decide +kernel)
  have r15 : Fr [138, 139, 140, 141, 142, 143, 144, 145, 138000, 138001, 138002, 138003, 138004, 138005] φ (hf_cp (hf_cp (hf_cp (hf_cp (hf_cp (hf_cp (hf_up (hf_up (hf_up (hf_up (hf_up (hf_up φ 137 0 (φ 17 0)) 137 1 (φ 17 1)) 137 2 (φ 17 2)) 137 3 (φ 17 3)) 137 4 (φ 17 4)) 137 5 (φ 17 5)) 18 138 8) 19 139 8) 20 140 6) 21 141 6) 22 142 36) 23 143 6) := fr_cp r14 (by decide)
  have i16 : Inv (hf_cp (hf_cp (hf_cp (hf_cp (hf_cp (hf_cp (hf_cp (hf_up (hf_up (hf_up (hf_up (hf_up (hf_up φ 137 0 (φ 17 0)) 137 1 (φ 17 1)) 137 2 (φ 17 2)) 137 3 (φ 17 3)) 137 4 (φ 17 4)) 137 5 (φ 17 5)) 18 138 8) 19 139 8) 20 140 6) 21 141 6) 22 142 36) 23 143 6) 24 144 6) := iv_cp i15 (by decide) (by decide +kernel)
  have r16 : Fr [138, 139, 140, 141, 142, 143, 144, 145, 138000, 138001, 138002, 138003, 138004, 138005] φ (hf_cp (hf_cp (hf_cp (hf_cp (hf_cp (hf_cp (hf_cp (hf_up (hf_up (hf_up (hf_up (hf_up (hf_up φ 137 0 (φ 17 0)) 137 1 (φ 17 1)) 137 2 (φ 17 2)) 137 3 (φ 17 3)) 137 4 (φ 17 4)) 137 5 (φ 17 5)) 18 138 8) 19 139 8) 20 140 6) 21 141 6) 22 142 36) 23 143 6) 24 144 6) := fr_cp r15 (by decide)
  have i17 : Inv (hf_cp (hf_cp (hf_cp (hf_cp (hf_cp (hf_cp (hf_cp (hf_cp (hf_up (hf_up (hf_up (hf_up (hf_up (hf_up φ 137 0 (φ 17 0)) 137 1 (φ 17 1)) 137 2 (φ 17 2)) 137 3 (φ 17 3)) 137 4 (φ 17 4)) 137 5 (φ 17 5)) 18 138 8) 19 139 8) 20 140 6) 21 141 6) 22 142 36) 23 143 6) 24 144 6) 25 145 8) := iv_cp i16 (by decide) (by decide +kernel)
  have r17 : Fr [138, 139, 140, 141, 142, 143, 144, 145, 138000, 138001, 138002, 138003, 138004, 138005] φ (hf_cp (hf_cp (hf_cp (hf_cp (hf_cp (hf_cp (hf_cp (hf_cp (hf_up (hf_up (hf_up (hf_up (hf_up (hf_up φ 137 0 (φ 17 0)) 137 1 (φ 17 1)) 137 2 (φ 17 2)) 137 3 (φ 17 3)) 137 4 (φ 17 4)) 137 5 (φ 17 5)) 18 138 8) 19 139 8) 20 140 6) 21 141 6) 22 142 36) 23 143 6) 24 144 6) 25 145 8) := fr_cp r16 (by decide)
  exact hQ (hf_cp (hf_cp (hf_cp (hf_cp (hf_cp (hf_cp (hf_cp (hf_cp (hf_up (hf_up (hf_up (hf_up (hf_up (hf_up φ 137 0 (φ 17 0)) 137 1 (φ 17 1)) 137 2 (φ 17 2)) 137 3 (φ 17 3)) 137 4 (φ 17 4)) 137 5 (φ 17 5)) 18 138 8) 19 139 8) 20 140 6) 21 141 6) 22 142 36) 23 143 6) 24 144 6) 25 145 8) i17 r17 e0
theorem sf_66_146_17_v {sc : List Int} {d : Nat} {φ : hf_F} {x : Nat} {Q : Option jm_V → hf_F → Nat → Prop} 
    (H : Q none (hf_cp (hf_cp (hf_cp (hf_cp (hf_cp (hf_cp (hf_cp (hf_cp (hf_up (hf_up (hf_up (hf_up (hf_up (hf_up φ 146 0 (φ 17 0)) 146 1 (φ 17 1)) 146 2 (φ 17 2)) 146 3 (φ 17 3)) 146 4 (φ 17 4)) 146 5 (φ 17 5)) 18 147 8) 19 148 8) 20 149 6) 21 150 6) 22 151 36) 23 152 6) 24 153 6) 25 154 8) x) :
    hw sc d 66 0 [(0, (2, 146)), (1, (2, 17))] [] φ x Q := by
  refine hw_ald (b := 0) (e := 0) (by decide +kernel) rfl (by decide) ?_
  refine hw_ald (b := 1) (e := 0) (by decide +kernel) rfl (by decide) ?_
  refine hr_gi (w := φ 17 0) (b := 4) (e := 0) 17 rfl (by decide +kernel) rfl ?_
  refine hr_pi (b := 4) (e := 0) 146 rfl (by decide +kernel) ?_
  refine hw_ald (b := 0) (e := 0) (by decide +kernel) rfl (by decide) ?_
  refine hw_ald (b := 1) (e := 0) (by decide +kernel) rfl (by decide) ?_
  refine hr_gi (w := φ 17 1) (b := 4) (e := 1) 17 rfl (by decide +kernel) (hf_up_ne (fun q => absurd q.1 (by decide))) ?_
  refine hr_pi (b := 4) (e := 1) 146 rfl (by decide +kernel) ?_
  refine hw_ald (b := 0) (e := 0) (by decide +kernel) rfl (by decide) ?_
  refine hw_ald (b := 1) (e := 0) (by decide +kernel) rfl (by decide) ?_
  refine hr_gi (w := φ 17 2) (b := 4) (e := 2) 17 rfl (by decide +kernel) ((hf_up_ne (fun q => absurd q.1 (by decide))).trans (hf_up_ne (fun q => absurd q.1 (by decide)))) ?_
  refine hr_pi (b := 4) (e := 2) 146 rfl (by decide +kernel) ?_
  refine hw_ald (b := 0) (e := 0) (by decide +kernel) rfl (by decide) ?_
  refine hw_ald (b := 1) (e := 0) (by decide +kernel) rfl (by decide) ?_
  refine hr_gi (w := φ 17 3) (b := 4) (e := 3) 17 rfl (by decide +kernel) ((hf_up_ne (fun q => absurd q.1 (by decide))).trans ((hf_up_ne (fun q => absurd q.1 (by decide))).trans (hf_up_ne (fun q => absurd q.1 (by decide))))) ?_
  refine hr_pi (b := 4) (e := 3) 146 rfl (by decide +kernel) ?_
  refine hw_ald (b := 0) (e := 0) (by decide +kernel) rfl (by decide) ?_
  refine hw_ald (b := 1) (e := 0) (by decide +kernel) rfl (by decide) ?_
  refine hr_gi (w := φ 17 4) (b := 4) (e := 4) 17 rfl (by decide +kernel) ((hf_up_ne (fun q => absurd q.1 (by decide))).trans ((hf_up_ne (fun q => absurd q.1 (by decide))).trans ((hf_up_ne (fun q => absurd q.1 (by decide))).trans (hf_up_ne (fun q => absurd q.1 (by decide)))))) ?_
  refine hr_pi (b := 4) (e := 4) 146 rfl (by decide +kernel) ?_
  refine hw_ald (b := 0) (e := 0) (by decide +kernel) rfl (by decide) ?_
  refine hw_ald (b := 1) (e := 0) (by decide +kernel) rfl (by decide) ?_
  refine hr_gi (w := φ 17 5) (b := 4) (e := 5) 17 rfl (by decide +kernel) ((hf_up_ne (fun q => absurd q.1 (by decide))).trans ((hf_up_ne (fun q => absurd q.1 (by decide))).trans ((hf_up_ne (fun q => absurd q.1 (by decide))).trans ((hf_up_ne (fun q => absurd q.1 (by decide))).trans (hf_up_ne (fun q => absurd q.1 (by decide))))))) ?_
  refine hr_pi (b := 4) (e := 5) 146 rfl (by decide +kernel) ?_
  refine hw_ald (b := 1) (e := 0) (by decide +kernel) rfl (by decide) ?_
  refine hr_gr (w := 18) (b := 4) (e := 6) 17 rfl (by decide +kernel) ?_
  refine hw_k (c := 0) (b := 0) (e := 1) (by decide +kernel) ?_
  refine hw_ald (b := 0) (e := 0) (by decide +kernel) rfl (by decide) ?_
  refine hr_gr (w := 147) (b := 4) (e := 6) 146 rfl (by decide +kernel) ?_
  refine hw_k (c := 0) (b := 0) (e := 1) (by decide +kernel) ?_
  refine hw_k (c := 8) (b := 1) (e := 2) (by decide +kernel) ?_
  refine hr_cp (a0 := 0) (b0 := 0) (e := 0) 18 147 8 rfl rfl rfl (by decide +kernel) (Nat.le_of_ble_eq_true rfl) ?_
  refine hw_ald (b := 1) (e := 0) (by decide +kernel) rfl (by decide) ?_
  refine hr_gr (w := 19) (b := 4) (e := 7) 17 rfl (by decide +kernel) ?_
  refine hw_k (c := 0) (b := 0) (e := 1) (by decide +kernel) ?_
  refine hw_ald (b := 0) (e := 0) (by decide +kernel) rfl (by decide) ?_
  refine hr_gr (w := 148) (b := 4) (e := 7) 146 rfl (by decide +kernel) ?_
  refine hw_k (c := 0) (b := 0) (e := 1) (by decide +kernel) ?_
  refine hw_k (c := 8) (b := 1) (e := 2) (by decide +kernel) ?_
  refine hr_cp (a0 := 0) (b0 := 0) (e := 0) 19 148 8 rfl rfl rfl (by decide +kernel) (Nat.le_of_ble_eq_true rfl) ?_
  refine hw_ald (b := 1) (e := 0) (by decide +kernel) rfl (by decide) ?_
  refine hr_gr (w := 20) (b := 4) (e := 8) 17 rfl (by decide +kernel) ?_
  refine hw_k (c := 0) (b := 0) (e := 1) (by decide +kernel) ?_
  refine hw_ald (b := 0) (e := 0) (by decide +kernel) rfl (by decide) ?_
  refine hr_gr (w := 149) (b := 4) (e := 8) 146 rfl (by decide +kernel) ?_
  refine hw_k (c := 0) (b := 0) (e := 1) (by decide +kernel) ?_
  refine hw_k (c := 6) (b := 1) (e := 2) (by decide +kernel) ?_
  refine hr_cp (a0 := 0) (b0 := 0) (e := 0) 20 149 6 rfl rfl rfl (by decide +kernel) (Nat.le_of_ble_eq_true rfl) ?_
  refine hw_ald (b := 1) (e := 0) (by decide +kernel) rfl (by decide) ?_
  refine hr_gr (w := 21) (b := 4) (e := 9) 17 rfl (by decide +kernel) ?_
  refine hw_k (c := 0) (b := 0) (e := 1) (by decide +kernel) ?_
  refine hw_ald (b := 0) (e := 0) (by decide +kernel) rfl (by decide) ?_
  refine hr_gr (w := 150) (b := 4) (e := 9) 146 rfl (by decide +kernel) ?_
  refine hw_k (c := 0) (b := 0) (e := 1) (by decide +kernel) ?_
  refine hw_k (c := 6) (b := 1) (e := 2) (by decide +kernel) ?_
  refine hr_cp (a0 := 0) (b0 := 0) (e := 0) 21 150 6 rfl rfl rfl (by decide +kernel) (Nat.le_of_ble_eq_true rfl) ?_
  refine hw_ald (b := 1) (e := 0) (by decide +kernel) rfl (by decide) ?_
  refine hr_gr (w := 22) (b := 4) (e := 10) 17 rfl (by decide +kernel) ?_
  refine hw_k (c := 0) (b := 0) (e := 1) (by decide +kernel) ?_
  refine hw_ald (b := 0) (e := 0) (by decide +kernel) rfl (by decide) ?_
  refine hr_gr (w := 151) (b := 4) (e := 10) 146 rfl (by decide +kernel) ?_
  refine hw_k (c := 0) (b := 0) (e := 1) (by decide +kernel) ?_
  refine hw_k (c := 36) (b := 1) (e := 2) (by decide +kernel) ?_
  refine hr_cp (a0 := 0) (b0 := 0) (e := 0) 22 151 36 rfl rfl rfl (by decide +kernel) (Nat.le_of_ble_eq_true rfl) ?_
  refine hw_ald (b := 1) (e := 0) (by decide +kernel) rfl (by decide) ?_
  refine hr_gr (w := 23) (b := 4) (e := 11) 17 rfl (by decide +kernel) ?_
  refine hw_k (c := 0) (b := 0) (e := 1) (by decide +kernel) ?_
  refine hw_ald (b := 0) (e := 0) (by decide +kernel) rfl (by decide) ?_
  refine hr_gr (w := 152) (b := 4) (e := 11) 146 rfl (by decide +kernel) ?_
  refine hw_k (c := 0) (b := 0) (e := 1) (by decide +kernel) ?_
  refine hw_k (c := 6) (b := 1) (e := 2) (by decide +kernel) ?_
  refine hr_cp (a0 := 0) (b0 := 0) (e := 0) 23 152 6 rfl rfl rfl (by decide +kernel) (Nat.le_of_ble_eq_true rfl) ?_
  refine hw_ald (b := 1) (e := 0) (by decide +kernel) rfl (by decide) ?_
  refine hr_gr (w := 24) (b := 4) (e := 12) 17 rfl (by decide +kernel) ?_
  refine hw_k (c := 0) (b := 0) (e := 1) (by decide +kernel) ?_
  refine hw_ald (b := 0) (e := 0) (by decide +kernel) rfl (by decide) ?_
  refine hr_gr (w := 153) (b := 4) (e := 12) 146 rfl (by decide +kernel) ?_
  refine hw_k (c := 0) (b := 0) (e := 1) (by decide +kernel) ?_
  refine hw_k (c := 6) (b := 1) (e := 2) (by decide +kernel) ?_
  refine hr_cp (a0 := 0) (b0 := 0) (e := 0) 24 153 6 rfl rfl rfl (by decide +kernel) (Nat.le_of_ble_eq_true rfl) ?_
  refine hw_ald (b := 1) (e := 0) (by decide +kernel) rfl (by decide) ?_
  refine hr_gr (w := 25) (b := 4) (e := 13) 17 rfl (by decide +kernel) ?_
  refine hw_k (c := 0) (b := 0) (e := 1) (by decide +kernel) ?_
  refine hw_ald (b := 0) (e := 0) (by decide +kernel) rfl (by decide) ?_
  refine hr_gr (w := 154) (b := 4) (e := 13) 146 rfl (by decide +kernel) ?_
  refine hw_k (c := 0) (b := 0) (e := 1) (by decide +kernel) ?_
  refine hw_k (c := 8) (b := 1) (e := 2) (by decide +kernel) ?_
  refine hr_cp (a0 := 0) (b0 := 0) (e := 0) 25 154 8 rfl rfl rfl (by decide +kernel) (Nat.le_of_ble_eq_true rfl) ?_
  exact hw_vret (a0 := 0) (e := 0) (by decide +kernel) H
theorem sf_66_146_17 {sc : List Int} {d : Nat} {φ : hf_F} {x : Nat} {Q : Option jm_V → hf_F → Nat → Prop}  (hI : Inv φ)  (hQ : ∀ ψ : hf_F, Inv ψ → Fr [147, 148, 149, 150, 151, 152, 153, 154, 147000, 147001, 147002, 147003, 147004, 147005] φ ψ → F_State_copyFrom_146_17 φ = ψ → Q none ψ x) : hw sc d 66 0 [(0, (2, 146)), (1, (2, 17))] [] φ x Q := by
  apply sf_66_146_17_v
  have e0 : F_State_copyFrom_146_17 φ = _ := rfl
  have i1 : Inv (hf_up φ 146 0 (φ 17 0)) := iv_upn hI (by decide) (by decide) (by decide +kernel)
  have r1 : Fr [147, 148, 149, 150, 151, 152, 153, 154, 147000, 147001, 147002, 147003, 147004, 147005] φ (hf_up φ 146 0 (φ 17 0)) := fr_up (fr_rf) (by decide)
  have f2 := iv_at (a := 17) (k := 1) (lo := (-1 : Int)) (u := 7) hI (by decide +kernel)
  have i3 : Inv (hf_up (hf_up φ 146 0 (φ 17 0)) 146 1 (φ 17 1)) := iv_up (lo := (-1 : Int)) (u := 7) i1 (by decide +kernel) (by omega) (by omega)
  have r3 : Fr [147, 148, 149, 150, 151, 152, 153, 154, 147000, 147001, 147002, 147003, 147004, 147005] φ (hf_up (hf_up φ 146 0 (φ 17 0)) 146 1 (φ 17 1)) := fr_up r1 (by decide)
  have f4 := iv_at (a := 17) (k := 2) (lo := (-1 : Int)) (u := 5) hI (by decide +kernel)
  have i5 : Inv (hf_up (hf_up (hf_up φ 146 0 (φ 17 0)) 146 1 (φ 17 1)) 146 2 (φ 17 2)) := iv_up (lo := (-1 : Int)) (u := 5) i3 (by decide +kernel) (by omega) (by omega)
  have r5 : Fr [147, 148, 149, 150, 151, 152, 153, 154, 147000, 147001, 147002, 147003, 147004, 147005] φ (hf_up (hf_up (hf_up φ 146 0 (φ 17 0)) 146 1 (φ 17 1)) 146 2 (φ 17 2)) := fr_up r3 (by decide)
  have f6 := iv_at (a := 17) (k := 3) (lo := (-2147483648 : Int)) (u := 2147483647) hI (by decide +kernel)
  have i7 : Inv (hf_up (hf_up (hf_up (hf_up φ 146 0 (φ 17 0)) 146 1 (φ 17 1)) 146 2 (φ 17 2)) 146 3 (φ 17 3)) := iv_up (lo := (-2147483648 : Int)) (u := 2147483647) i5 (by decide +kernel) (by omega) (by omega)
  have r7 : Fr [147, 148, 149, 150, 151, 152, 153, 154, 147000, 147001, 147002, 147003, 147004, 147005] φ (hf_up (hf_up (hf_up (hf_up φ 146 0 (φ 17 0)) 146 1 (φ 17 1)) 146 2 (φ 17 2)) 146 3 (φ 17 3)) := fr_up r5 (by decide)
  have i8 : Inv (hf_up (hf_up (hf_up (hf_up (hf_up φ 146 0 (φ 17 0)) 146 1 (φ 17 1)) 146 2 (φ 17 2)) 146 3 (φ 17 3)) 146 4 (φ 17 4)) := iv_upn i7 (by decide) (by decide) (by decide +kernel)
  have r8 : Fr [147, 148, 149, 150, 151, 152, 153, 154, 147000, 147001, 147002, 147003, 147004, 147005] φ (hf_up (hf_up (hf_up (hf_up (hf_up φ 146 0 (φ 17 0)) 146 1 (φ 17 1)) 146 2 (φ 17 2)) 146 3 (φ 17 3)) 146 4 (φ 17 4)) := fr_up r7 (by decide)
  have i9 : Inv (hf_up (hf_up (hf_up (hf_up (hf_up (hf_up φ 146 0 (φ 17 0)) 146 1 (φ 17 1)) 146 2 (φ 17 2)) 146 3 (φ 17 3)) 146 4 (φ 17 4)) 146 5 (φ 17 5)) := iv_upn i8 (by decide) (by decide) (by decide +kernel)
  have r9 : Fr [147, 148, 149, 150, 151, 152, 153, 154, 147000, 147001, 147002, 147003, 147004, 147005] φ (hf_up (hf_up (hf_up (hf_up (hf_up (hf_up φ 146 0 (φ 17 0)) 146 1 (φ 17 1)) 146 2 (φ 17 2)) 146 3 (φ 17 3)) 146 4 (φ 17 4)) 146 5 (φ 17 5)) := fr_up r8 (by decide)
  have i10 : Inv (hf_cp (hf_up (hf_up (hf_up (hf_up (hf_up (hf_up φ 146 0 (φ 17 0)) 146 1 (φ 17 1)) 146 2 (φ 17 2)) 146 3 (φ 17 3)) 146 4 (φ 17 4)) 146 5 (φ 17 5)) 18 147 8) := iv_cp i9 (by decide) (by decide +kernel)
  have r10 : Fr [147, 148, 149, 150, 151, 152, 153, 154, 147000, 147001, 147002, 147003, 147004, 147005] φ (hf_cp (hf_up (hf_up (hf_up (hf_up (hf_up (hf_up φ 146 0 (φ 17 0)) 146 1 (φ 17 1)) 146 2 (φ 17 2)) 146 3 (φ 17 3)) 146 4 (φ 17 4)) 146 5 (φ 17 5)) 18 147 8) := fr_cp r9 (by decide)
  have i11 : Inv (hf_cp (hf_cp (hf_up (hf_up (hf_up (hf_up (hf_up (hf_up φ 146 0 (φ 17 0)) 146 1 (φ 17 1)) 146 2 (φ 17 2)) 146 3 (φ 17 3)) 146 4 (φ 17 4)) 146 5 (φ 17 5)) 18 147 8) 19 148 8) := iv_cp i10 (by decide) (by decide +kernel)
  have r11 : Fr [147, 148, 149, 150, 151, 152, 153, 154, 147000, 147001, 147002, 147003, 147004, 147005] φ (hf_cp (hf_cp (hf_up (hf_up (hf_up (hf_up (hf_up (hf_up φ 146 0 (φ 17 0)) 146 1 (φ 17 1)) 146 2 (φ 17 2)) 146 3 (φ 17 3)) 146 4 (φ 17 4)) 146 5 (φ 17 5)) 18 147 8) 19 148 8) := fr_cp r10 (by decide)
  have i12 : Inv (hf_cp (hf_cp (hf_cp (hf_up (hf_up (hf_up (hf_up (hf_up (hf_up φ 146 0 (φ 17 0)) 146 1 (φ 17 1)) 146 2 (φ 17 2)) 146 3 (φ 17 3)) 146 4 (φ 17 4)) 146 5 (φ 17 5)) 18 147 8) 19 148 8) 20 149 6) := iv_cp i11 (by decide) (by decide +kernel)
  have r12 : Fr [147, 148, 149, 150, 151, 152, 153, 154, 147000, 147001, 147002, 147003, 147004, 147005] φ (hf_cp (hf_cp (hf_cp (hf_up (hf_up (hf_up (hf_up (hf_up (hf_up φ 146 0 (φ 17 0)) 146 1 (φ 17 1)) 146 2 (φ 17 2)) 146 3 (φ 17 3)) 146 4 (φ 17 4)) 146 5 (φ 17 5)) 18 147 8) 19 148 8) 20 149 6) := fr_cp r11 (by decide)
  have i13 : Inv (hf_cp (hf_cp (hf_cp (hf_cp (hf_up (hf_up (hf_up (hf_up (hf_up (hf_up φ 146 0 (φ 17 0)) 146 1 (φ 17 1)) 146 2 (φ 17 2)) 146 3 (φ 17 3)) 146 4 (φ 17 4)) 146 5 (φ 17 5)) 18 147 8) 19 148 8) 20 149 6) 21 150 6) := iv_cp i12 (by decide) (by decide +kernel)
  have r13 : Fr [147, 148, 149, 150, 151, 152, 153, 154, 147000, 147001, 147002, 147003, 147004, 147005] φ (hf_cp (hf_cp (hf_cp (hf_cp (hf_up (hf_up (hf_up (hf_up (hf_up (hf_up φ 146 0 (φ 17 0)) 146 1 (φ 17 1)) 146 2 (φ 17 2)) 146 3 (φ 17 3)) 146 4 (φ 17 4)) 146 5 (φ 17 5)) 18 147 8) 19 148 8) 20 149 6) 21 150 6) := fr_cp r12 (by decide)
  have i14 : Inv (hf_cp (hf_cp (hf_cp (hf_cp (hf_cp (hf_up (hf_up (hf_up (hf_up (hf_up (hf_up φ 146 0 (φ 17 0)) 146 1 (φ 17 1)) 146 2 (φ 17 2)) 146 3 (φ 17 3)) 146 4 (φ 17 4)) 146 5 (φ 17 5)) 18 147 8) 19 148 8) 20 149 6) 21 150 6) 22 151 36) := iv_cp i13 (by decide) (by decide +kernel)
  have r14 : Fr [147, 148, 149, 150, 151, 152, 153, 154, 147000, 147001, 147002, 147003, 147004, 147005] φ (hf_cp (hf_cp (hf_cp (hf_cp (hf_cp (hf_up (hf_up (hf_up (hf_up (hf_up (hf_up φ 146 0 (φ 17 0)) 146 1 (φ 17 1)) 146 2 (φ 17 2)) 146 3 (φ 17 3)) 146 4 (φ 17 4)) 146 5 (φ 17 5)) 18 147 8) 19 148 8) 20 149 6) 21 150 6) 22 151 36) := fr_cp r13 (by decide)
  have i15 : Inv (hf_cp (hf_cp (hf_cp (hf_cp (hf_cp (hf_cp (hf_up (hf_up (hf_up (hf_up (hf_up (hf_up φ 146 0 (φ 17 0)) 146 1 (φ 17 1)) 146 2 (φ 17 2)) 146 3 (φ 17 3)) 146 4 (φ 17 4)) 146 5 (φ 17 5)) 18 147 8) 19 148 8) 20 149 6) 21 150 6) 22 151 36) 23 152 6) := iv_cp i14 (by decide) (by decide +kernel)
  have r15 : Fr [147, 148, 149, 150, 151, 152, 153, 154, 147000, 147001, 147002, 147003, 147004, 147005] φ (hf_cp (hf_cp (hf_cp (hf_cp (hf_cp (hf_cp (hf_up (hf_up (hf_up (hf_up (hf_up (hf_up φ 146 0 (φ 17 0)) 146 1 (φ 17 1)) 146 2 (φ 17 2)) 146 3 (φ 17 3)) 146 4 (φ 17 4)) 146 5 (φ 17 5)) 18 147 8) 19 148 8) 20 149 6) 21 150 6) 22 151 36) 23 152 6) := fr_cp r14 (by decide)
  have i16 : Inv (hf_cp (hf_cp (hf_cp (hf_cp (hf_cp (hf_cp (hf_cp (hf_up (hf_up (hf_up (hf_up (hf_up (hf_up φ 146 0 (φ 17 0)) 146 1 (φ 17 1)) 146 2 (φ 17 2)) 146 3 (φ 17 3)) 146 4 (φ 17 4)) 146 5 (φ 17 5)) 18 147 8) 19 148 8) 20 149 6) 21 150 6) 22 151 36) 23 152 6) 24 153 6) := iv_cp i15 (by decide) (by decide +kernel)
  have r16 : Fr [147, 148, 149, 150, 151, 152, 153, 154, 147000, 147001, 147002, 147003, 147004, 147005] φ (hf_cp (hf_cp (hf_cp (hf_cp (hf_cp (hf_cp (hf_cp (hf_up (hf_up (hf_up (hf_up (hf_up (hf_up φ 146 0 (φ 17 0)) 146 1 (φ 17 1)) 146 2 (φ 17 2)) 146 3 (φ 17 3)) 146 4 (φ 17 4)) 146 5 (φ 17 5)) 18 147 8) 19 148 8) 20 149 6) 21 150 6) 22 151 36) 23 152 6) 24 153 6) := fr_cp r15 (by decide)
  have i17 : Inv (hf_cp (hf_cp (hf_cp (hf_cp (hf_cp (hf_cp (hf_cp (hf_cp (hf_up (hf_up (hf_up (hf_up (hf_up (hf_up φ 146 0 (φ 17 0)) 146 1 (φ 17 1)) 146 2 (φ 17 2)) 146 3 (φ 17 3)) 146 4 (φ 17 4)) 146 5 (φ 17 5)) 18 147 8) 19 148 8) 20 149 6) 21 150 6) 22 151 36) 23 152 6) 24 153 6) 25 154 8) := iv_cp i16 (by decide) (by decide +kernel)
  have r17 : Fr [147, 148, 149, 150, 151, 152, 153, 154, 147000, 147001, 147002, 147003, 147004, 147005] φ (hf_cp (hf_cp (hf_cp (hf_cp (hf_cp (hf_cp (hf_cp (hf_cp (hf_up (hf_up (hf_up (hf_up (hf_up (hf_up φ 146 0 (φ 17 0)) 146 1 (φ 17 1)) 146 2 (φ 17 2)) 146 3 (φ 17 3)) 146 4 (φ 17 4)) 146 5 (φ 17 5)) 18 147 8) 19 148 8) 20 149 6) 21 150 6) 22 151 36) 23 152 6) 24 153 6) 25 154 8) := fr_cp r16 (by decide)
  exact hQ (hf_cp (hf_cp (hf_cp (hf_cp (hf_cp (hf_cp (hf_cp (hf_cp (hf_up (hf_up (hf_up (hf_up (hf_up (hf_up φ 146 0 (φ 17 0)) 146 1 (φ 17 1)) 146 2 (φ 17 2)) 146 3 (φ 17 3)) 146 4 (φ 17 4)) 146 5 (φ 17 5)) 18 147 8) 19 148 8) 20 149 6) 21 150 6) 22 151 36) 23 152 6) 24 153 6) 25 154 8) i17 r17 e0
theorem sf_66_155_17_v {sc : List Int} {d : Nat} {φ : hf_F} {x : Nat} {Q : Option jm_V → hf_F → Nat → Prop} 
    (H : Q none (hf_cp (hf_cp (hf_cp (hf_cp (hf_cp (hf_cp (hf_cp (hf_cp (hf_up (hf_up (hf_up (hf_up (hf_up (hf_up φ 155 0 (φ 17 0)) 155 1 (φ 17 1)) 155 2 (φ 17 2)) 155 3 (φ 17 3)) 155 4 (φ 17 4)) 155 5 (φ 17 5)) 18 156 8) 19 157 8) 20 158 6) 21 159 6) 22 160 36) 23 161 6) 24 162 6) 25 163 8) x) :
    hw sc d 66 0 [(0, (2, 155)), (1, (2, 17))] [] φ x Q := by
  refine hw_ald (b := 0) (e := 0) (by decide +kernel) rfl (by decide) ?_
  refine hw_ald (b := 1) (e := 0) (by decide +kernel) rfl (by decide) ?_
  refine hr_gi (w := φ 17 0) (b := 4) (e := 0) 17 rfl (by decide +kernel) rfl ?_
  refine hr_pi (b := 4) (e := 0) 155 rfl (by decide +kernel) ?_
  refine hw_ald (b := 0) (e := 0) (by decide +kernel) rfl (by decide) ?_
  refine hw_ald (b := 1) (e := 0) (by decide +kernel) rfl (by decide) ?_
  refine hr_gi (w := φ 17 1) (b := 4) (e := 1) 17 rfl (by decide +kernel) (hf_up_ne (fun q => absurd q.1 (by decide))) ?_
  refine hr_pi (b := 4) (e := 1) 155 rfl (by decide +kernel) ?_
  refine hw_ald (b := 0) (e := 0) (by decide +kernel) rfl (by decide) ?_
  refine hw_ald (b := 1) (e := 0) (by decide +kernel) rfl (by decide) ?_
  refine hr_gi (w := φ 17 2) (b := 4) (e := 2) 17 rfl (by decide +kernel) ((hf_up_ne (fun q => absurd q.1 (by decide))).trans (hf_up_ne (fun q => absurd q.1 (by decide)))) ?_
  refine hr_pi (b := 4) (e := 2) 155 rfl (by decide +kernel) ?_
  refine hw_ald (b := 0) (e := 0) (by decide +kernel) rfl (by decide) ?_
  refine hw_ald (b := 1) (e := 0) (by decide +kernel) rfl (by decide) ?_
  refine hr_gi (w := φ 17 3) (b := 4) (e := 3) 17 rfl (by decide +kernel) ((hf_up_ne (fun q => absurd q.1 (by decide))).trans ((hf_up_ne (fun q => absurd q.1 (by decide))).trans (hf_up_ne (fun q => absurd q.1 (by decide))))) ?_
  refine hr_pi (b := 4) (e := 3) 155 rfl (by decide +kernel) ?_
  refine hw_ald (b := 0) (e := 0) (by decide +kernel) rfl (by decide) ?_
  refine hw_ald (b := 1) (e := 0) (by decide +kernel) rfl (by decide) ?_
  refine hr_gi (w := φ 17 4) (b := 4) (e := 4) 17 rfl (by decide +kernel) ((hf_up_ne (fun q => absurd q.1 (by decide))).trans ((hf_up_ne (fun q => absurd q.1 (by decide))).trans ((hf_up_ne (fun q => absurd q.1 (by decide))).trans (hf_up_ne (fun q => absurd q.1 (by decide)))))) ?_
  refine hr_pi (b := 4) (e := 4) 155 rfl (by decide +kernel) ?_
  refine hw_ald (b := 0) (e := 0) (by decide +kernel) rfl (by decide) ?_
  refine hw_ald (b := 1) (e := 0) (by decide +kernel) rfl (by decide) ?_
  refine hr_gi (w := φ 17 5) (b := 4) (e := 5) 17 rfl (by decide +kernel) ((hf_up_ne (fun q => absurd q.1 (by decide))).trans ((hf_up_ne (fun q => absurd q.1 (by decide))).trans ((hf_up_ne (fun q => absurd q.1 (by decide))).trans ((hf_up_ne (fun q => absurd q.1 (by decide))).trans (hf_up_ne (fun q => absurd q.1 (by decide))))))) ?_
  refine hr_pi (b := 4) (e := 5) 155 rfl (by decide +kernel) ?_
  refine hw_ald (b := 1) (e := 0) (by decide +kernel) rfl (by decide) ?_
  refine hr_gr (w := 18) (b := 4) (e := 6) 17 rfl (by decide +kernel) ?_
  refine hw_k (c := 0) (b := 0) (e := 1) (by decide +kernel) ?_
  refine hw_ald (b := 0) (e := 0) (by decide +kernel) rfl (by decide) ?_
  refine hr_gr (w := 156) (b := 4) (e := 6) 155 rfl (by decide +kernel) ?_
  refine hw_k (c := 0) (b := 0) (e := 1) (by decide +kernel) ?_
  refine hw_k (c := 8) (b := 1) (e := 2) (by decide +kernel) ?_
  refine hr_cp (a0 := 0) (b0 := 0) (e := 0) 18 156 8 rfl rfl rfl (by decide +kernel) (Nat.le_of_ble_eq_true rfl) ?_
  refine hw_ald (b := 1) (e := 0) (by decide +kernel) rfl (by decide) ?_
  refine hr_gr (w := 19) (b := 4) (e := 7) 17 rfl (by decide +kernel) ?_
  refine hw_k (c := 0) (b := 0) (e := 1) (by decide +kernel) ?_
  refine hw_ald (b := 0) (e := 0) (by decide +kernel) rfl (by decide) ?_
  refine hr_gr (w := 157) (b := 4) (e := 7) 155 rfl (by decide +kernel) ?_
  refine hw_k (c := 0) (b := 0) (e := 1) (by decide +kernel) ?_
  refine hw_k (c := 8) (b := 1) (e := 2) (by decide +kernel) ?_
  refine hr_cp (a0 := 0) (b0 := 0) (e := 0) 19 157 8 rfl rfl rfl (by decide +kernel) (Nat.le_of_ble_eq_true rfl) ?_
  refine hw_ald (b := 1) (e := 0) (by decide +kernel) rfl (by decide) ?_
  refine hr_gr (w := 20) (b := 4) (e := 8) 17 rfl (by decide +kernel) ?_
  refine hw_k (c := 0) (b := 0) (e := 1) (by decide +kernel) ?_
  refine hw_ald (b := 0) (e := 0) (by decide +kernel) rfl (by decide) ?_
  refine hr_gr (w := 158) (b := 4) (e := 8) 155 rfl (by decide +kernel) ?_
  refine hw_k (c := 0) (b := 0) (e := 1) (by decide +kernel) ?_
  refine hw_k (c := 6) (b := 1) (e := 2) (by decide +kernel) ?_
  refine hr_cp (a0 := 0) (b0 := 0) (e := 0) 20 158 6 rfl rfl rfl (by decide +kernel) (Nat.le_of_ble_eq_true rfl) ?_
  refine hw_ald (b := 1) (e := 0) (by decide +kernel) rfl (by decide) ?_
  refine hr_gr (w := 21) (b := 4) (e := 9) 17 rfl (by decide +kernel) ?_
  refine hw_k (c := 0) (b := 0) (e := 1) (by decide +kernel) ?_
  refine hw_ald (b := 0) (e := 0) (by decide +kernel) rfl (by decide) ?_
  refine hr_gr (w := 159) (b := 4) (e := 9) 155 rfl (by decide +kernel) ?_
  refine hw_k (c := 0) (b := 0) (e := 1) (by decide +kernel) ?_
  refine hw_k (c := 6) (b := 1) (e := 2) (by decide +kernel) ?_
  refine hr_cp (a0 := 0) (b0 := 0) (e := 0) 21 159 6 rfl rfl rfl (by decide +kernel) (Nat.le_of_ble_eq_true rfl) ?_
  refine hw_ald (b := 1) (e := 0) (by decide +kernel) rfl (by decide) ?_
  refine hr_gr (w := 22) (b := 4) (e := 10) 17 rfl (by decide +kernel) ?_
  refine hw_k (c := 0) (b := 0) (e := 1) (by decide +kernel) ?_
  refine hw_ald (b := 0) (e := 0) (by decide +kernel) rfl (by decide) ?_
  refine hr_gr (w := 160) (b := 4) (e := 10) 155 rfl (by decide +kernel) ?_
  refine hw_k (c := 0) (b := 0) (e := 1) (by decide +kernel) ?_
  refine hw_k (c := 36) (b := 1) (e := 2) (by decide +kernel) ?_
  refine hr_cp (a0 := 0) (b0 := 0) (e := 0) 22 160 36 rfl rfl rfl (by decide +kernel) (Nat.le_of_ble_eq_true rfl) ?_
  refine hw_ald (b := 1) (e := 0) (by decide +kernel) rfl (by decide) ?_
  refine hr_gr (w := 23) (b := 4) (e := 11) 17 rfl (by decide +kernel) ?_
  refine hw_k (c := 0) (b := 0) (e := 1) (by decide +kernel) ?_
  refine hw_ald (b := 0) (e := 0) (by decide +kernel) rfl (by decide) ?_
  refine hr_gr (w := 161) (b := 4) (e := 11) 155 rfl (by decide +kernel) ?_
  refine hw_k (c := 0) (b := 0) (e := 1) (by decide +kernel) ?_
  refine hw_k (c := 6) (b := 1) (e := 2) (by decide +kernel) ?_
  refine hr_cp (a0 := 0) (b0 := 0) (e := 0) 23 161 6 rfl rfl rfl (by decide +kernel) (Nat.le_of_ble_eq_true rfl) ?_
  refine hw_ald (b := 1) (e := 0) (by decide +kernel) rfl (by decide) ?_
  refine hr_gr (w := 24) (b := 4) (e := 12) 17 rfl (by decide +kernel) ?_
  refine hw_k (c := 0) (b := 0) (e := 1) (by decide +kernel) ?_
  refine hw_ald (b := 0) (e := 0) (by decide +kernel) rfl (by decide) ?_
  refine hr_gr (w := 162) (b := 4) (e := 12) 155 rfl (by decide +kernel) ?_
  refine hw_k (c := 0) (b := 0) (e := 1) (by decide +kernel) ?_
  refine hw_k (c := 6) (b := 1) (e := 2) (by decide +kernel) ?_
  refine hr_cp (a0 := 0) (b0 := 0) (e := 0) 24 162 6 rfl rfl rfl (by decide +kernel) (Nat.le_of_ble_eq_true rfl) ?_
  refine hw_ald (b := 1) (e := 0) (by decide +kernel) rfl (by decide) ?_
  refine hr_gr (w := 25) (b := 4) (e := 13) 17 rfl (by decide +kernel) ?_
  refine hw_k (c := 0) (b := 0) (e := 1) (by decide +kernel) ?_
  refine hw_ald (b := 0) (e := 0) (by decide +kernel) rfl (by decide) ?_
  refine hr_gr (w := 163) (b := 4) (e := 13) 155 rfl (by decide +kernel) ?_
  refine hw_k (c := 0) (b := 0) (e := 1) (by decide +kernel) ?_
  refine hw_k (c := 8) (b := 1) (e := 2) (by decide +kernel) ?_
  refine hr_cp (a0 := 0) (b0 := 0) (e := 0) 25 163 8 rfl rfl rfl (by decide +kernel) (Nat.le_of_ble_eq_true rfl) ?_
  exact hw_vret (a0 := 0) (e := 0) (by decide +kernel) H
theorem sf_66_155_17 {sc : List Int} {d : Nat} {φ : hf_F} {x : Nat} {Q : Option jm_V → hf_F → Nat → Prop}  (hI : Inv φ)  (hQ : ∀ ψ : hf_F, Inv ψ → Fr [156, 157, 158, 159, 160, 161, 162, 163, 156000, 156001, 156002, 156003, 156004, 156005] φ ψ → F_State_copyFrom_155_17 φ = ψ → Q none ψ x) : hw sc d 66 0 [(0, (2, 155)), (1, (2, 17))] [] φ x Q := by
  apply sf_66_155_17_v
  have e0 : F_State_copyFrom_155_17 φ = _ := rfl
  have i1 : Inv (hf_up φ 155 0 (φ 17 0)) := iv_upn hI (by decide) (by decide) (by decide +kernel)
  have r1 : Fr [156, 157, 158, 159, 160, 161, 162, 163, 156000, 156001, 156002, 156003, 156004, 156005] φ (hf_up φ 155 0 (φ 17 0)) := fr_up (fr_rf) (by decide)
  have f2 := iv_at (a := 17) (k := 1) (lo := (-1 : Int)) (u := 7) hI (by decide +kernel)
  have i3 : Inv (hf_up (hf_up φ 155 0 (φ 17 0)) 155 1 (φ 17 1)) := iv_up (lo := (-1 : Int)) (u := 7) i1 (by decide +kernel) (by omega) (by omega)
  have r3 : Fr [156, 157, 158, 159, 160, 161, 162, 163, 156000, 156001, 156002, 156003, 156004, 156005] φ (hf_up (hf_up φ 155 0 (φ 17 0)) 155 1 (φ 17 1)) := fr_up r1 (by decide)
  have f4 := iv_at (a := 17) (k := 2) (lo := (-1 : Int)) (u := 5) hI (by decide +kernel)
  have i5 : Inv (hf_up (hf_up (hf_up φ 155 0 (φ 17 0)) 155 1 (φ 17 1)) 155 2 (φ 17 2)) := iv_up (lo := (-1 : Int)) (u := 5) i3 (by decide +kernel) (by omega) (by omega)
  have r5 : Fr [156, 157, 158, 159, 160, 161, 162, 163, 156000, 156001, 156002, 156003, 156004, 156005] φ (hf_up (hf_up (hf_up φ 155 0 (φ 17 0)) 155 1 (φ 17 1)) 155 2 (φ 17 2)) := fr_up r3 (by decide)
  have f6 := iv_at (a := 17) (k := 3) (lo := (-2147483648 : Int)) (u := 2147483647) hI (by decide +kernel)
  have i7 : Inv (hf_up (hf_up (hf_up (hf_up φ 155 0 (φ 17 0)) 155 1 (φ 17 1)) 155 2 (φ 17 2)) 155 3 (φ 17 3)) := iv_up (lo := (-2147483648 : Int)) (u := 2147483647) i5 (by decide +kernel) (by omega) (by omega)
  have r7 : Fr [156, 157, 158, 159, 160, 161, 162, 163, 156000, 156001, 156002, 156003, 156004, 156005] φ (hf_up (hf_up (hf_up (hf_up φ 155 0 (φ 17 0)) 155 1 (φ 17 1)) 155 2 (φ 17 2)) 155 3 (φ 17 3)) := fr_up r5 (by decide)
  have i8 : Inv (hf_up (hf_up (hf_up (hf_up (hf_up φ 155 0 (φ 17 0)) 155 1 (φ 17 1)) 155 2 (φ 17 2)) 155 3 (φ 17 3)) 155 4 (φ 17 4)) := iv_upn i7 (by decide) (by decide) (by decide +kernel)
  have r8 : Fr [156, 157, 158, 159, 160, 161, 162, 163, 156000, 156001, 156002, 156003, 156004, 156005] φ (hf_up (hf_up (hf_up (hf_up (hf_up φ 155 0 (φ 17 0)) 155 1 (φ 17 1)) 155 2 (φ 17 2)) 155 3 (φ 17 3)) 155 4 (φ 17 4)) := fr_up r7 (by decide)
  have i9 : Inv (hf_up (hf_up (hf_up (hf_up (hf_up (hf_up φ 155 0 (φ 17 0)) 155 1 (φ 17 1)) 155 2 (φ 17 2)) 155 3 (φ 17 3)) 155 4 (φ 17 4)) 155 5 (φ 17 5)) := iv_upn i8 (by decide) (by decide) (by decide +kernel)
  have r9 : Fr [156, 157, 158, 159, 160, 161, 162, 163, 156000, 156001, 156002, 156003, 156004, 156005] φ (hf_up (hf_up (hf_up (hf_up (hf_up (hf_up φ 155 0 (φ 17 0)) 155 1 (φ 17 1)) 155 2 (φ 17 2)) 155 3 (φ 17 3)) 155 4 (φ 17 4)) 155 5 (φ 17 5)) := fr_up r8 (by decide)
  have i10 : Inv (hf_cp (hf_up (hf_up (hf_up (hf_up (hf_up (hf_up φ 155 0 (φ 17 0)) 155 1 (φ 17 1)) 155 2 (φ 17 2)) 155 3 (φ 17 3)) 155 4 (φ 17 4)) 155 5 (φ 17 5)) 18 156 8) := iv_cp i9 (by decide) (by decide +kernel)
  have r10 : Fr [156, 157, 158, 159, 160, 161, 162, 163, 156000, 156001, 156002, 156003, 156004, 156005] φ (hf_cp (hf_up (hf_up (hf_up (hf_up (hf_up (hf_up φ 155 0 (φ 17 0)) 155 1 (φ 17 1)) 155 2 (φ 17 2)) 155 3 (φ 17 3)) 155 4 (φ 17 4)) 155 5 (φ 17 5)) 18 156 8) := fr_cp r9 (by decide)
  have i11 : Inv (hf_cp (hf_cp (hf_up (hf_up (hf_up (hf_up (hf_up (hf_up φ 155 0 (φ 17 0)) 155 1 (φ 17 1)) 155 2 (φ 17 2)) 155 3 (φ 17 3)) 155 4 (φ 17 4)) 155 5 (φ 17 5)) 18 156 8) 19 157 8) := iv_cp i10 (by decide) (by decide +kernel)
  have r11 : Fr [156, 157, 158, 159, 160, 161, 162, 163, 156000, 156001, 156002, 156003, 156004, 156005] φ (hf_cp (hf_cp (hf_up (hf_up (hf_up (hf_up (hf_up (hf_up φ 155 0 (φ 17 0)) 155 1 (φ 17 1)) 155 2 (φ 17 2)) 155 3 (φ 17 3)) 155 4 (φ 17 4)) 155 5 (φ 17 5)) 18 156 8) 19 157 8) := fr_cp r10 (by decide)
  have i12 : Inv (hf_cp (hf_cp (hf_cp (hf_up (hf_up (hf_up (hf_up (hf_up (hf_up φ 155 0 (φ 17 0)) 155 1 (φ 17 1)) 155 2 (φ 17 2)) 155 3 (φ 17 3)) 155 4 (φ 17 4)) 155 5 (φ 17 5)) 18 156 8) 19 157 8) 20 158 6) := iv_cp i11 (by decide) (by decide +kernel)
  have r12 : Fr [156, 157, 158, 159, 160, 161, 162, 163, 156000, 156001, 156002, 156003, 156004, 156005] φ (hf_cp (hf_cp (hf_cp (hf_up (hf_up (hf_up (hf_up (hf_up (hf_up φ 155 0 (φ 17 0)) 155 1 (φ 17 1)) 155 2 (φ 17 2)) 155 3 (φ 17 3)) 155 4 (φ 17 4)) 155 5 (φ 17 5)) 18 156 8) 19 157 8) 20 158 6) := fr_cp r11 (by decide)
  have i13 : Inv (hf_cp (hf_cp (hf_cp (hf_cp (hf_up (hf_up (hf_up (hf_up (hf_up (hf_up φ 155 0 (φ 17 0)) 155 1 (φ 17 1)) 155 2 (φ 17 2)) 155 3 (φ 17 3)) 155 4 (φ 17 4)) 155 5 (φ 17 5)) 18 156 8) 19 157 8) 20 158 6) 21 159 6) := iv_cp i12 (by decide) (by decide +kernel)
  have r13 : Fr [156, 157, 158, 159, 160, 161, 162, 163, 156000, 156001, 156002, 156003, 156004, 156005] φ (hf_cp (hf_cp (hf_cp (hf_cp (hf_up (hf_up (hf_up (hf_up (hf_up (hf_up φ 155 0 (φ 17 0)) 155 1 (φ 17 1)) 155 2 (φ 17 2)) 155 3 (φ 17 3)) 155 4 (φ 17 4)) 155 5 (φ 17 5)) 18 156 8) 19 157 8) 20 158 6) 21 159 6) := fr_cp r12 (by decide)
  have i14 : Inv (hf_cp (hf_cp (hf_cp (hf_cp (hf_cp (hf_up (hf_up (hf_up (hf_up (hf_up (hf_up φ 155 0 (φ 17 0)) 155 1 (φ 17 1)) 155 2 (φ 17 2)) 155 3 (φ 17 3)) 155 4 (φ 17 4)) 155 5 (φ 17 5)) 18 156 8) 19 157 8) 20 158 6) 21 159 6) 22 160 36) := iv_cp i13 (by decide) (by decide +kernel)
  have r14 : Fr [156, 157, 158, 159, 160, 161, 162, 163, 156000, 156001, 156002, 156003, 156004, 156005] φ (hf_cp (hf_cp (hf_cp (hf_cp (hf_cp (hf_up (hf_up (hf_up (hf_up (hf_up (hf_up φ 155 0 (φ 17 0)) 155 1 (φ 17 1)) 155 2 (φ 17 2)) 155 3 (φ 17 3)) 155 4 (φ 17 4)) 155 5 (φ 17 5)) 18 156 8) 19 157 8) 20 158 6) 21 159 6) 22 160 36) := fr_cp r13 (by decide)
  have i15 : Inv (hf_cp (hf_cp (hf_cp (hf_cp (hf_cp (hf_cp (hf_up (hf_up (hf_up (hf_up (hf_up (hf_up φ 155 0 (φ 17 0)) 155 1 (φ 17 1)) 155 2 (φ 17 2)) 155 3 (φ 17 3)) 155 4 (φ 17 4)) 155 5 (φ 17 5)) 18 156 8) 19 157 8) 20 158 6) 21 159 6) 22 160 36) 23 161 6) := iv_cp i14 (by decide) (by decide +kernel)
  have r15 : Fr [156, 157, 158, 159, 160, 161, 162, 163, 156000, 156001, 156002, 156003, 156004, 156005] φ (hf_cp (hf_cp (hf_cp (hf_cp (hf_cp (hf_cp (hf_up (hf_up (hf_up (hf_up (hf_up (hf_up φ 155 0 (φ 17 0)) 155 1 (φ 17 1)) 155 2 (φ 17 2)) 155 3 (φ 17 3)) 155 4 (φ 17 4)) 155 5 (φ 17 5)) 18 156 8) 19 157 8) 20 158 6) 21 159 6) 22 160 36) 23 161 6) := fr_cp r14 (by decide)
  have i16 : Inv (hf_cp (hf_cp (hf_cp (hf_cp (hf_cp (hf_cp (hf_cp (hf_up (hf_up (hf_up (hf_up (hf_up (hf_up φ 155 0 (φ 17 0)) 155 1 (φ 17 1)) 155 2 (φ 17 2)) 155 3 (φ 17 3)) 155 4 (φ 17 4)) 155 5 (φ 17 5)) 18 156 8) 19 157 8) 20 158 6) 21 159 6) 22 160 36) 23 161 6) 24 162 6) := iv_cp i15 (by decide) (by decide +kernel)
  have r16 : Fr [156, 157, 158, 159, 160, 161, 162, 163, 156000, 156001, 156002, 156003, 156004, 156005] φ (hf_cp (hf_cp (hf_cp (hf_cp (hf_cp (hf_cp (hf_cp (hf_up (hf_up (hf_up (hf_up (hf_up (hf_up φ 155 0 (φ 17 0)) 155 1 (φ 17 1)) 155 2 (φ 17 2)) 155 3 (φ 17 3)) 155 4 (φ 17 4)) 155 5 (φ 17 5)) 18 156 8) 19 157 8) 20 158 6) 21 159 6) 22 160 36) 23 161 6) 24 162 6) := fr_cp r15 (by decide)
  have i17 : Inv (hf_cp (hf_cp (hf_cp (hf_cp (hf_cp (hf_cp (hf_cp (hf_cp (hf_up (hf_up (hf_up (hf_up (hf_up (hf_up φ 155 0 (φ 17 0)) 155 1 (φ 17 1)) 155 2 (φ 17 2)) 155 3 (φ 17 3)) 155 4 (φ 17 4)) 155 5 (φ 17 5)) 18 156 8) 19 157 8) 20 158 6) 21 159 6) 22 160 36) 23 161 6) 24 162 6) 25 163 8) := iv_cp i16 (by decide) (by decide +kernel)
  have r17 : Fr [156, 157, 158, 159, 160, 161, 162, 163, 156000, 156001, 156002, 156003, 156004, 156005] φ (hf_cp (hf_cp (hf_cp (hf_cp (hf_cp (hf_cp (hf_cp (hf_cp (hf_up (hf_up (hf_up (hf_up (hf_up (hf_up φ 155 0 (φ 17 0)) 155 1 (φ 17 1)) 155 2 (φ 17 2)) 155 3 (φ 17 3)) 155 4 (φ 17 4)) 155 5 (φ 17 5)) 18 156 8) 19 157 8) 20 158 6) 21 159 6) 22 160 36) 23 161 6) 24 162 6) 25 163 8) := fr_cp r16 (by decide)
  exact hQ (hf_cp (hf_cp (hf_cp (hf_cp (hf_cp (hf_cp (hf_cp (hf_cp (hf_up (hf_up (hf_up (hf_up (hf_up (hf_up φ 155 0 (φ 17 0)) 155 1 (φ 17 1)) 155 2 (φ 17 2)) 155 3 (φ 17 3)) 155 4 (φ 17 4)) 155 5 (φ 17 5)) 18 156 8) 19 157 8) 20 158 6) 21 159 6) 22 160 36) 23 161 6) 24 162 6) 25 163 8) i17 r17 e0
theorem sf_66_164_17_v {sc : List Int} {d : Nat} {φ : hf_F} {x : Nat} {Q : Option jm_V → hf_F → Nat → Prop} 
    (H : Q none (hf_cp (hf_cp (hf_cp (hf_cp (hf_cp (hf_cp (hf_cp (hf_cp (hf_up (hf_up (hf_up (hf_up (hf_up (hf_up φ 164 0 (φ 17 0)) 164 1 (φ 17 1)) 164 2 (φ 17 2)) 164 3 (φ 17 3)) 164 4 (φ 17 4)) 164 5 (φ 17 5)) 18 165 8) 19 166 8) 20 167 6) 21 168 6) 22 169 36) 23 170 6) 24 171 6) 25 172 8) x) :
    hw sc d 66 0 [(0, (2, 164)), (1, (2, 17))] [] φ x Q := by
  refine hw_ald (b := 0) (e := 0) (by decide +kernel) rfl (by decide) ?_
  refine hw_ald (b := 1) (e := 0) (by decide +kernel) rfl (by decide) ?_
  refine hr_gi (w := φ 17 0) (b := 4) (e := 0) 17 rfl (by decide +kernel) rfl ?_
  refine hr_pi (b := 4) (e := 0) 164 rfl (by decide +kernel) ?_
  refine hw_ald (b := 0) (e := 0) (by decide +kernel) rfl (by decide) ?_
  refine hw_ald (b := 1) (e := 0) (by decide +kernel) rfl (by decide) ?_
  refine hr_gi (w := φ 17 1) (b := 4) (e := 1) 17 rfl (by decide +kernel) (hf_up_ne (fun q => absurd q.1 (by decide))) ?_
  refine hr_pi (b := 4) (e := 1) 164 rfl (by decide +kernel) ?_
  refine hw_ald (b := 0) (e := 0) (by decide +kernel) rfl (by decide) ?_
  refine hw_ald (b := 1) (e := 0) (by decide +kernel) rfl (by decide) ?_
  refine hr_gi (w := φ 17 2) (b := 4) (e := 2) 17 rfl (by decide +kernel) ((hf_up_ne (fun q => absurd q.1 (by decide))).trans (hf_up_ne (fun q => absurd q.1 (by decide)))) ?_
  refine hr_pi (b := 4) (e := 2) 164 rfl (by decide +kernel) ?_
  refine hw_ald (b := 0) (e := 0) (by decide +kernel) rfl (by decide) ?_
  refine hw_ald (b := 1) (e := 0) (by decide +kernel) rfl (by decide) ?_
  refine hr_gi (w := φ 17 3) (b := 4) (e := 3) 17 rfl (by decide +kernel) ((hf_up_ne (fun q => absurd q.1 (by decide))).trans ((hf_up_ne (fun q => absurd q.1 (by decide))).trans (hf_up_ne (fun q => absurd q.1 (by decide))))) ?_
  refine hr_pi (b := 4) (e := 3) 164 rfl (by decide +kernel) ?_
  refine hw_ald (b := 0) (e := 0) (by decide +kernel) rfl (by decide) ?_
  refine hw_ald (b := 1) (e := 0) (by decide +kernel) rfl (by decide) ?_
  refine hr_gi (w := φ 17 4) (b := 4) (e := 4) 17 rfl (by decide +kernel) ((hf_up_ne (fun q => absurd q.1 (by decide))).trans ((hf_up_ne (fun q => absurd q.1 (by decide))).trans ((hf_up_ne (fun q => absurd q.1 (by decide))).trans (hf_up_ne (fun q => absurd q.1 (by decide)))))) ?_
  refine hr_pi (b := 4) (e := 4) 164 rfl (by decide +kernel) ?_
  refine hw_ald (b := 0) (e := 0) (by decide +kernel) rfl (by decide) ?_
  refine hw_ald (b := 1) (e := 0) (by decide +kernel) rfl (by decide) ?_
  refine hr_gi (w := φ 17 5) (b := 4) (e := 5) 17 rfl (by decide +kernel) ((hf_up_ne (fun q => absurd q.1 (by decide))).trans ((hf_up_ne (fun q => absurd q.1 (by decide))).trans ((hf_up_ne (fun q => absurd q.1 (by decide))).trans ((hf_up_ne (fun q => absurd q.1 (by decide))).trans (hf_up_ne (fun q => absurd q.1 (by decide))))))) ?_
  refine hr_pi (b := 4) (e := 5) 164 rfl (by decide +kernel) ?_
  refine hw_ald (b := 1) (e := 0) (by decide +kernel) rfl (by decide) ?_
  refine hr_gr (w := 18) (b := 4) (e := 6) 17 rfl (by decide +kernel) ?_
  refine hw_k (c := 0) (b := 0) (e := 1) (by decide +kernel) ?_
  refine hw_ald (b := 0) (e := 0) (by decide +kernel) rfl (by decide) ?_
  refine hr_gr (w := 165) (b := 4) (e := 6) 164 rfl (by decide +kernel) ?_
  refine hw_k (c := 0) (b := 0) (e := 1) (by decide +kernel) ?_
  refine hw_k (c := 8) (b := 1) (e := 2) (by decide +kernel) ?_
  refine hr_cp (a0 := 0) (b0 := 0) (e := 0) 18 165 8 rfl rfl rfl (by decide +kernel) (Nat.le_of_ble_eq_true rfl) ?_
  refine hw_ald (b := 1) (e := 0) (by decide +kernel) rfl (by decide) ?_
  refine hr_gr (w := 19) (b := 4) (e := 7) 17 rfl (by decide +kernel) ?_
  refine hw_k (c := 0) (b := 0) (e := 1) (by decide +kernel) ?_
  refine hw_ald (b := 0) (e := 0) (by decide +kernel) rfl (by decide) ?_
  refine hr_gr (w := 166) (b := 4) (e := 7) 164 rfl (by decide +kernel) ?_
  refine hw_k (c := 0) (b := 0) (e := 1) (by decide +kernel) ?_
  refine hw_k (c := 8) (b := 1) (e := 2) (by decide +kernel) ?_
  refine hr_cp (a0 := 0) (b0 := 0) (e := 0) 19 166 8 rfl rfl rfl (by decide +kernel) (Nat.le_of_ble_eq_true rfl) ?_
  refine hw_ald (b := 1) (e := 0) (by decide +kernel) rfl (by decide) ?_
  refine hr_gr (w := 20) (b := 4) (e := 8) 17 rfl (by decide +kernel) ?_
  refine hw_k (c := 0) (b := 0) (e := 1) (by decide +kernel) ?_
  refine hw_ald (b := 0) (e := 0) (by decide +kernel) rfl (by decide) ?_
  refine hr_gr (w := 167) (b := 4) (e := 8) 164 rfl (by decide +kernel) ?_
  refine hw_k (c := 0) (b := 0) (e := 1) (by decide +kernel) ?_
  refine hw_k (c := 6) (b := 1) (e := 2) (by decide +kernel) ?_
  refine hr_cp (a0 := 0) (b0 := 0) (e := 0) 20 167 6 rfl rfl rfl (by decide +kernel) (Nat.le_of_ble_eq_true rfl) ?_
  refine hw_ald (b := 1) (e := 0) (by decide +kernel) rfl (by decide) ?_
  refine hr_gr (w := 21) (b := 4) (e := 9) 17 rfl (by decide +kernel) ?_
  refine hw_k (c := 0) (b := 0) (e := 1) (by decide +kernel) ?_
  refine hw_ald (b := 0) (e := 0) (by decide +kernel) rfl (by decide) ?_
  refine hr_gr (w := 168) (b := 4) (e := 9) 164 rfl (by decide +kernel) ?_
  refine hw_k (c := 0) (b := 0) (e := 1) (by decide +kernel) ?_
  refine hw_k (c := 6) (b := 1) (e := 2) (by decide +kernel) ?_
  refine hr_cp (a0 := 0) (b0 := 0) (e := 0) 21 168 6 rfl rfl rfl (by decide +kernel) (Nat.le_of_ble_eq_true rfl) ?_
  refine hw_ald (b := 1) (e := 0) (by decide +kernel) rfl (by decide) ?_
  refine hr_gr (w := 22) (b := 4) (e := 10) 17 rfl (by decide +kernel) ?_
  refine hw_k (c := 0) (b := 0) (e := 1) (by decide +kernel) ?_
  refine hw_ald (b := 0) (e := 0) (by decide +kernel) rfl (by decide) ?_
  refine hr_gr (w := 169) (b := 4) (e := 10) 164 rfl (by decide +kernel) ?_
  refine hw_k (c := 0) (b := 0) (e := 1) (by decide +kernel) ?_
  refine hw_k (c := 36) (b := 1) (e := 2) (by decide +kernel) ?_
  refine hr_cp (a0 := 0) (b0 := 0) (e := 0) 22 169 36 rfl rfl rfl (by decide +kernel) (Nat.le_of_ble_eq_true rfl) ?_
  refine hw_ald (b := 1) (e := 0) (by decide +kernel) rfl (by decide) ?_
  refine hr_gr (w := 23) (b := 4) (e := 11) 17 rfl (by decide +kernel) ?_
  refine hw_k (c := 0) (b := 0) (e := 1) (by decide +kernel) ?_
  refine hw_ald (b := 0) (e := 0) (by decide +kernel) rfl (by decide) ?_
  refine hr_gr (w := 170) (b := 4) (e := 11) 164 rfl (by decide +kernel) ?_
  refine hw_k (c := 0) (b := 0) (e := 1) (by decide +kernel) ?_
  refine hw_k (c := 6) (b := 1) (e := 2) (by decide +kernel) ?_
  refine hr_cp (a0 := 0) (b0 := 0) (e := 0) 23 170 6 rfl rfl rfl (by decide +kernel) (Nat.le_of_ble_eq_true rfl) ?_
  refine hw_ald (b := 1) (e := 0) (by decide +kernel) rfl (by decide) ?_
  refine hr_gr (w := 24) (b := 4) (e := 12) 17 rfl (by decide +kernel) ?_
  refine hw_k (c := 0) (b := 0) (e := 1) (by decide +kernel) ?_
  refine hw_ald (b := 0) (e := 0) (by decide +kernel) rfl (by decide) ?_
  refine hr_gr (w := 171) (b := 4) (e := 12) 164 rfl (by decide +kernel) ?_
  refine hw_k (c := 0) (b := 0) (e := 1) (by decide +kernel) ?_
  refine hw_k (c := 6) (b := 1) (e := 2) (by decide +kernel) ?_
  refine hr_cp (a0 := 0) (b0 := 0) (e := 0) 24 171 6 rfl rfl rfl (by decide +kernel) (Nat.le_of_ble_eq_true rfl) ?_
  refine hw_ald (b := 1) (e := 0) (by decide +kernel) rfl (by decide) ?_
  refine hr_gr (w := 25) (b := 4) (e := 13) 17 rfl (by decide +kernel) ?_
  refine hw_k (c := 0) (b := 0) (e := 1) (by decide +kernel) ?_
  refine hw_ald (b := 0) (e := 0) (by decide +kernel) rfl (by decide) ?_
  refine hr_gr (w := 172) (b := 4) (e := 13) 164 rfl (by decide +kernel) ?_
  refine hw_k (c := 0) (b := 0) (e := 1) (by decide +kernel) ?_
  refine hw_k (c := 8) (b := 1) (e := 2) (by decide +kernel) ?_
  refine hr_cp (a0 := 0) (b0 := 0) (e := 0) 25 172 8 rfl rfl rfl (by decide +kernel) (Nat.le_of_ble_eq_true rfl) ?_
  exact hw_vret (a0 := 0) (e := 0) (by decide +kernel) H
theorem sf_66_164_17 {sc : List Int} {d : Nat} {φ : hf_F} {x : Nat} {Q : Option jm_V → hf_F → Nat → Prop}  (hI : Inv φ)  (hQ : ∀ ψ : hf_F, Inv ψ → Fr [165, 166, 167, 168, 169, 170, 171, 172, 165000, 165001, 165002, 165003, 165004, 165005] φ ψ → F_State_copyFrom_164_17 φ = ψ → Q none ψ x) : hw sc d 66 0 [(0, (2, 164)), (1, (2, 17))] [] φ x Q := by
  apply sf_66_164_17_v
  have e0 : F_State_copyFrom_164_17 φ = _ := rfl
  have i1 : Inv (hf_up φ 164 0 (φ 17 0)) := iv_upn hI (by decide) (by decide) (by decide +kernel)
  have r1 : Fr [165, 166, 167, 168, 169, 170, 171, 172, 165000, 165001, 165002, 165003, 165004, 165005] φ (hf_up φ 164 0 (φ 17 0)) := fr_up (fr_rf) (by decide)
  have f2 := iv_at (a := 17) (k := 1) (lo := (-1 : Int)) (u := 7) hI (by decide +kernel)
  have i3 : Inv (hf_up (hf_up φ 164 0 (φ 17 0)) 164 1 (φ 17 1)) := iv_up (lo := (-1 : Int)) (u := 7) i1 (by decide +kernel) (by omega) (by omega)
  have r3 : Fr [165, 166, 167, 168, 169, 170, 171, 172, 165000, 165001, 165002, 165003, 165004, 165005] φ (hf_up (hf_up φ 164 0 (φ 17 0)) 164 1 (φ 17 1)) := fr_up r1 (by decide)
  have f4 := iv_at (a := 17) (k := 2) (lo := (-1 : Int)) (u := 5) hI (by decide +kernel)
  have i5 : Inv (hf_up (hf_up (hf_up φ 164 0 (φ 17 0)) 164 1 (φ 17 1)) 164 2 (φ 17 2)) := iv_up (lo := (-1 : Int)) (u := 5) i3 (by decide +kernel) (by omega) (by omega)
  have r5 : Fr [165, 166, 167, 168, 169, 170, 171, 172, 165000, 165001, 165002, 165003, 165004, 165005] φ (hf_up (hf_up (hf_up φ 164 0 (φ 17 0)) 164 1 (φ 17 1)) 164 2 (φ 17 2)) := fr_up r3 (by decide)
  have f6 := iv_at (a := 17) (k := 3) (lo := (-2147483648 : Int)) (u := 2147483647) hI (by decide +kernel)
  have i7 : Inv (hf_up (hf_up (hf_up (hf_up φ 164 0 (φ 17 0)) 164 1 (φ 17 1)) 164 2 (φ 17 2)) 164 3 (φ 17 3)) := iv_up (lo := (-2147483648 : Int)) (u := 2147483647) i5 (by decide +kernel) (by omega) (by omega)
  have r7 : Fr [165, 166, 167, 168, 169, 170, 171, 172, 165000, 165001, 165002, 165003, 165004, 165005] φ (hf_up (hf_up (hf_up (hf_up φ 164 0 (φ 17 0)) 164 1 (φ 17 1)) 164 2 (φ 17 2)) 164 3 (φ 17 3)) := fr_up r5 (by decide)
  have i8 : Inv (hf_up (hf_up (hf_up (hf_up (hf_up φ 164 0 (φ 17 0)) 164 1 (φ 17 1)) 164 2 (φ 17 2)) 164 3 (φ 17 3)) 164 4 (φ 17 4)) := iv_upn i7 (by decide) (by decide) (by decide +kernel)
  have r8 : Fr [165, 166, 167, 168, 169, 170, 171, 172, 165000, 165001, 165002, 165003, 165004, 165005] φ (hf_up (hf_up (hf_up (hf_up (hf_up φ 164 0 (φ 17 0)) 164 1 (φ 17 1)) 164 2 (φ 17 2)) 164 3 (φ 17 3)) 164 4 (φ 17 4)) := fr_up r7 (by decide)
  have i9 : Inv (hf_up (hf_up (hf_up (hf_up (hf_up (hf_up φ 164 0 (φ 17 0)) 164 1 (φ 17 1)) 164 2 (φ 17 2)) 164 3 (φ 17 3)) 164 4 (φ 17 4)) 164 5 (φ 17 5)) := iv_upn i8 (by decide) (by decide) (by decide +kernel)
  have r9 : Fr [165, 166, 167, 168, 169, 170, 171, 172, 165000, 165001, 165002, 165003, 165004, 165005] φ (hf_up (hf_up (hf_up (hf_up (hf_up (hf_up φ 164 0 (φ 17 0)) 164 1 (φ 17 1)) 164 2 (φ 17 2)) 164 3 (φ 17 3)) 164 4 (φ 17 4)) 164 5 (φ 17 5)) := fr_up r8 (by decide)
  have i10 : Inv (hf_cp (hf_up (hf_up (hf_up (hf_up (hf_up (hf_up φ 164 0 (φ 17 0)) 164 1 (φ 17 1)) 164 2 (φ 17 2)) 164 3 (φ 17 3)) 164 4 (φ 17 4)) 164 5 (φ 17 5)) 18 165 8) := iv_cp i9 (by decide) (by decide +kernel)
  have r10 : Fr [165, 166, 167, 168, 169, 170, 171, 172, 165000, 165001, 165002, 165003, 165004, 165005] φ (hf_cp (hf_up (hf_up (hf_up (hf_up (hf_up (hf_up φ 164 0 (φ 17 0)) 164 1 (φ 17 1)) 164 2 (φ 17 2)) 164 3 (φ 17 3)) 164 4 (φ 17 4)) 164 5 (φ 17 5)) 18 165 8) := fr_cp r9 (by decide)
  have i11 : Inv (hf_cp (hf_cp (hf_up (hf_up (hf_up (hf_up (hf_up (hf_up φ 164 0 (φ 17 0)) 164 1 (φ 17 1)) 164 2 (φ 17 2)) 164 3 (φ 17 3)) 164 4 (φ 17 4)) 164 5 (φ 17 5)) 18 165 8) 19 166 8) := iv_cp i10 (by decide) (by decide +kernel)
  have r11 : Fr [165, 166, 167, 168, 169, 170, 171, 172, 165000, 165001, 165002, 165003, 165004, 165005] φ (hf_cp (hf_cp (hf_up (hf_up (hf_up (hf_up (hf_up (hf_up φ 164 0 (φ 17 0)) 164 1 (φ 17 1)) 164 2 (φ 17 2)) 164 3 (φ 17 3)) 164 4 (φ 17 4)) 164 5 (φ 17 5)) 18 165 8) 19 166 8) := fr_cp r10 (by decide)
  have i12 : Inv (hf_cp (hf_cp (hf_cp (hf_up (hf_up (hf_up (hf_up (hf_up (hf_up φ 164 0 (φ 17 0)) 164 1 (φ 17 1)) 164 2 (φ 17 2)) 164 3 (φ 17 3)) 164 4 (φ 17 4)) 164 5 (φ 17 5)) 18 165 8) 19 166 8) 20 167 6) := iv_cp i11 (by decide) (by decide +kernel)
  have r12 : Fr [165, 166, 167, 168, 169, 170, 171, 172, 165000, 165001, 165002, 165003, 165004, 165005] φ (hf_cp (hf_cp (hf_cp (hf_up (hf_up (hf_up (hf_up (hf_up (hf_up φ 164 0 (φ 17 0)) 164 1 (φ 17 1)) 164 2 (φ 17 2)) 164 3 (φ 17 3)) 164 4 (φ 17 4)) 164 5 (φ 17 5)) 18 165 8) 19 166 8) 20 167 6) := fr_cp r11 (by decide)
  have i13 : Inv (hf_cp (hf_cp (hf_cp (hf_cp (hf_up (hf_up (hf_up (hf_up (hf_up (hf_up φ 164 0 (φ 17 0)) 164 1 (φ 17 1)) 164 2 (φ 17 2)) 164 3 (φ 17 3)) 164 4 (φ 17 4)) 164 5 (φ 17 5)) 18 165 8) 19 166 8) 20 167 6) 21 168 6) := iv_cp i12 (by decide) (by decide +kernel)
  have r13 : Fr [165, 166, 167, 168, 169, 170, 171, 172, 165000, 165001, 165002, 165003, 165004, 165005] φ (hf_cp (hf_cp (hf_cp (hf_cp (hf_up (hf_up (hf_up (hf_up (hf_up (hf_up φ 164 0 (φ 17 0)) 164 1 (φ 17 1)) 164 2 (φ 17 2)) 164 3 (φ 17 3)) 164 4 (φ 17 4)) 164 5 (φ 17 5)) 18 165 8) 19 166 8) 20 167 6) 21 168 6) := fr_cp r12 (by decide)
  have i14 : Inv (hf_cp (hf_cp (hf_cp (hf_cp (hf_cp (hf_up (hf_up (hf_up (hf_up (hf_up (hf_up φ 164 0 (φ 17 0)) 164 1 (φ 17 1)) 164 2 (φ 17 2)) 164 3 (φ 17 3)) 164 4 (φ 17 4)) 164 5 (φ 17 5)) 18 165 8) 19 166 8) 20 167 6) 21 168 6) 22 169 36) := iv_cp i13 (by decide) (by decide +kernel)
  have r14 : Fr [165, 166, 167, 168, 169, 170, 171, 172, 165000, 165001, 165002, 165003, 165004, 165005] φ (hf_cp (hf_cp (hf_cp (hf_cp (hf_cp (hf_up (hf_up (hf_up (hf_up (hf_up (hf_up φ 164 0 (φ 17 0)) 164 1 (φ 17 1)) 164 2 (φ 17 2)) 164 3 (φ 17 3)) 164 4 (φ 17 4)) 164 5 (φ 17 5)) 18 165 8) 19 166 8) 20 167 6) 21 168 6) 22 169 36) := fr_cp r13 (by decide)
  have i15 : Inv (hf_cp (hf_cp (hf_cp (hf_cp (hf_cp (hf_cp (hf_up (hf_up (hf_up (hf_up (hf_up (hf_up φ 164 0 (φ 17 0)) 164 1 (φ 17 1)) 164 2 (φ 17 2)) 164 3 (φ 17 3)) 164 4 (φ 17 4)) 164 5 (φ 17 5)) 18 165 8) 19 166 8) 20 167 6) 21 168 6) 22 169 36) 23 170 6) := iv_cp i14 (by decide) (by decide +kernel)
  have r15 : Fr [165, 166, 167, 168, 169, 170, 171, 172, 165000, 165001, 165002, 165003, 165004, 165005] φ (hf_cp (hf_cp (hf_cp (hf_cp (hf_cp (hf_cp (hf_up (hf_up (hf_up (hf_up (hf_up (hf_up φ 164 0 (φ 17 0)) 164 1 (φ 17 1)) 164 2 (φ 17 2)) 164 3 (φ 17 3)) 164 4 (φ 17 4)) 164 5 (φ 17 5)) 18 165 8) 19 166 8) 20 167 6) 21 168 6) 22 169 36) 23 170 6) := fr_cp r14 (by decide)
  have i16 : Inv (hf_cp (hf_cp (hf_cp (hf_cp (hf_cp (hf_cp (hf_cp (hf_up (hf_up (hf_up (hf_up (hf_up (hf_up φ 164 0 (φ 17 0)) 164 1 (φ 17 1)) 164 2 (φ 17 2)) 164 3 (φ 17 3)) 164 4 (φ 17 4)) 164 5 (φ 17 5)) 18 165 8) 19 166 8) 20 167 6) 21 168 6) 22 169 36) 23 170 6) 24 171 6) := iv_cp i15 (by decide) (by decide +kernel)
  have r16 : Fr [165, 166, 167, 168, 169, 170, 171, 172, 165000, 165001, 165002, 165003, 165004, 165005] φ (hf_cp (hf_cp (hf_cp (hf_cp (hf_cp (hf_cp (hf_cp (hf_up (hf_up (hf_up (hf_up (hf_up (hf_up φ 164 0 (φ 17 0)) 164 1 (φ 17 1)) 164 2 (φ 17 2)) 164 3 (φ 17 3)) 164 4 (φ 17 4)) 164 5 (φ 17 5)) 18 165 8) 19 166 8) 20 167 6) 21 168 6) 22 169 36) 23 170 6) 24 171 6) := fr_cp r15 (by decide)
  have i17 : Inv (hf_cp (hf_cp (hf_cp (hf_cp (hf_cp (hf_cp (hf_cp (hf_cp (hf_up (hf_up (hf_up (hf_up (hf_up (hf_up φ 164 0 (φ 17 0)) 164 1 (φ 17 1)) 164 2 (φ 17 2)) 164 3 (φ 17 3)) 164 4 (φ 17 4)) 164 5 (φ 17 5)) 18 165 8) 19 166 8) 20 167 6) 21 168 6) 22 169 36) 23 170 6) 24 171 6) 25 172 8) := iv_cp i16 (by decide) (by decide +kernel)
  have r17 : Fr [165, 166, 167, 168, 169, 170, 171, 172, 165000, 165001, 165002, 165003, 165004, 165005] φ (hf_cp (hf_cp (hf_cp (hf_cp (hf_cp (hf_cp (hf_cp (hf_cp (hf_up (hf_up (hf_up (hf_up (hf_up (hf_up φ 164 0 (φ 17 0)) 164 1 (φ 17 1)) 164 2 (φ 17 2)) 164 3 (φ 17 3)) 164 4 (φ 17 4)) 164 5 (φ 17 5)) 18 165 8) 19 166 8) 20 167 6) 21 168 6) 22 169 36) 23 170 6) 24 171 6) 25 172 8) := fr_cp r16 (by decide)
  exact hQ (hf_cp (hf_cp (hf_cp (hf_cp (hf_cp (hf_cp (hf_cp (hf_cp (hf_up (hf_up (hf_up (hf_up (hf_up (hf_up φ 164 0 (φ 17 0)) 164 1 (φ 17 1)) 164 2 (φ 17 2)) 164 3 (φ 17 3)) 164 4 (φ 17 4)) 164 5 (φ 17 5)) 18 165 8) 19 166 8) 20 167 6) 21 168 6) 22 169 36) 23 170 6) 24 171 6) 25 172 8) i17 r17 e0
theorem sf_66_173_17_v {sc : List Int} {d : Nat} {φ : hf_F} {x : Nat} {Q : Option jm_V → hf_F → Nat → Prop} 
    (H : Q none (hf_cp (hf_cp (hf_cp (hf_cp (hf_cp (hf_cp (hf_cp (hf_cp (hf_up (hf_up (hf_up (hf_up (hf_up (hf_up φ 173 0 (φ 17 0)) 173 1 (φ 17 1)) 173 2 (φ 17 2)) 173 3 (φ 17 3)) 173 4 (φ 17 4)) 173 5 (φ 17 5)) 18 174 8) 19 175 8) 20 176 6) 21 177 6) 22 178 36) 23 179 6) 24 180 6) 25 181 8) x) :
    hw sc d 66 0 [(0, (2, 173)), (1, (2, 17))] [] φ x Q := by
  refine hw_ald (b := 0) (e := 0) (by decide +kernel) rfl (by decide) ?_
  refine hw_ald (b := 1) (e := 0) (by decide +kernel) rfl (by decide) ?_
  refine hr_gi (w := φ 17 0) (b := 4) (e := 0) 17 rfl (by decide +kernel) rfl ?_
  refine hr_pi (b := 4) (e := 0) 173 rfl (by decide +kernel) ?_
  refine hw_ald (b := 0) (e := 0) (by decide +kernel) rfl (by decide) ?_
  refine hw_ald (b := 1) (e := 0) (by decide +kernel) rfl (by decide) ?_
  refine hr_gi (w := φ 17 1) (b := 4) (e := 1) 17 rfl (by decide +kernel) (hf_up_ne (fun q => absurd q.1 (by decide))) ?_
  refine hr_pi (b := 4) (e := 1) 173 rfl (by decide +kernel) ?_
  refine hw_ald (b := 0) (e := 0) (by decide +kernel) rfl (by decide) ?_
  refine hw_ald (b := 1) (e := 0) (by decide +kernel) rfl (by decide) ?_
  refine hr_gi (w := φ 17 2) (b := 4) (e := 2) 17 rfl (by decide +kernel) ((hf_up_ne (fun q => absurd q.1 (by decide))).trans (hf_up_ne (fun q => absurd q.1 (by decide)))) ?_
  refine hr_pi (b := 4) (e := 2) 173 rfl (by decide +kernel) ?_
  refine hw_ald (b := 0) (e := 0) (by decide +kernel) rfl (by decide) ?_
  refine hw_ald (b := 1) (e := 0) (by decide +kernel) rfl (by decide) ?_
  refine hr_gi (w := φ 17 3) (b := 4) (e := 3) 17 rfl (by decide +kernel) ((hf_up_ne (fun q => absurd q.1 (by decide))).trans ((hf_up_ne (fun q => absurd q.1 (by decide))).trans (hf_up_ne (fun q => absurd q.1 (by decide))))) ?_
  refine hr_pi (b := 4) (e := 3) 173 rfl (by decide +kernel) ?_
  refine hw_ald (b := 0) (e := 0) (by decide +kernel) rfl (by decide) ?_
  refine hw_ald (b := 1) (e := 0) (by decide +kernel) rfl (by decide) ?_
  refine hr_gi (w := φ 17 4) (b := 4) (e := 4) 17 rfl (by decide +kernel) ((hf_up_ne (fun q => absurd q.1 (by decide))).trans ((hf_up_ne (fun q => absurd q.1 (by decide))).trans ((hf_up_ne (fun q => absurd q.1 (by decide))).trans (hf_up_ne (fun q => absurd q.1 (by decide)))))) ?_
  refine hr_pi (b := 4) (e := 4) 173 rfl (by decide +kernel) ?_
  refine hw_ald (b := 0) (e := 0) (by decide +kernel) rfl (by decide) ?_
  refine hw_ald (b := 1) (e := 0) (by decide +kernel) rfl (by decide) ?_
  refine hr_gi (w := φ 17 5) (b := 4) (e := 5) 17 rfl (by decide +kernel) ((hf_up_ne (fun q => absurd q.1 (by decide))).trans ((hf_up_ne (fun q => absurd q.1 (by decide))).trans ((hf_up_ne (fun q => absurd q.1 (by decide))).trans ((hf_up_ne (fun q => absurd q.1 (by decide))).trans (hf_up_ne (fun q => absurd q.1 (by decide))))))) ?_
  refine hr_pi (b := 4) (e := 5) 173 rfl (by decide +kernel) ?_
  refine hw_ald (b := 1) (e := 0) (by decide +kernel) rfl (by decide) ?_
  refine hr_gr (w := 18) (b := 4) (e := 6) 17 rfl (by decide +kernel) ?_
  refine hw_k (c := 0) (b := 0) (e := 1) (by decide +kernel) ?_
  refine hw_ald (b := 0) (e := 0) (by decide +kernel) rfl (by decide) ?_
  refine hr_gr (w := 174) (b := 4) (e := 6) 173 rfl (by decide +kernel) ?_
  refine hw_k (c := 0) (b := 0) (e := 1) (by decide +kernel) ?_
  refine hw_k (c := 8) (b := 1) (e := 2) (by decide +kernel) ?_
  refine hr_cp (a0 := 0) (b0 := 0) (e := 0) 18 174 8 rfl rfl rfl (by decide +kernel) (Nat.le_of_ble_eq_true rfl) ?_
  refine hw_ald (b := 1) (e := 0) (by decide +kernel) rfl (by decide) ?_
  refine hr_gr (w := 19) (b := 4) (e := 7) 17 rfl (by decide +kernel) ?_
  refine hw_k (c := 0) (b := 0) (e := 1) (by decide +kernel) ?_
  refine hw_ald (b := 0) (e := 0) (by decide +kernel) rfl (by decide) ?_
  refine hr_gr (w := 175) (b := 4) (e := 7) 173 rfl (by decide +kernel) ?_
  refine hw_k (c := 0) (b := 0) (e := 1) (by decide +kernel) ?_
  refine hw_k (c := 8) (b := 1) (e := 2) (by decide +kernel) ?_
  refine hr_cp (a0 := 0) (b0 := 0) (e := 0) 19 175 8 rfl rfl rfl (by decide +kernel) (Nat.le_of_ble_eq_true rfl) ?_
  refine hw_ald (b := 1) (e := 0) (by decide +kernel) rfl (by decide) ?_
  refine hr_gr (w := 20) (b := 4) (e := 8) 17 rfl (by decide +kernel) ?_
  refine hw_k (c := 0) (b := 0) (e := 1) (by decide +kernel) ?_
  refine hw_ald (b := 0) (e := 0) (by decide +kernel) rfl (by decide) ?_
  refine hr_gr (w := 176) (b := 4) (e := 8) 173 rfl (by decide +kernel) ?_
  refine hw_k (c := 0) (b := 0) (e := 1) (by decide +kernel) ?_
  refine hw_k (c := 6) (b := 1) (e := 2) (by decide +kernel) ?_
  refine hr_cp (a0 := 0) (b0 := 0) (e := 0) 20 176 6 rfl rfl rfl (by decide +kernel) (Nat.le_of_ble_eq_true rfl) ?_
  refine hw_ald (b := 1) (e := 0) (by decide +kernel) rfl (by decide) ?_
  refine hr_gr (w := 21) (b := 4) (e := 9) 17 rfl (by decide +kernel) ?_
  refine hw_k (c := 0) (b := 0) (e := 1) (by decide +kernel) ?_
  refine hw_ald (b := 0) (e := 0) (by decide +kernel) rfl (by decide) ?_
  refine hr_gr (w := 177) (b := 4) (e := 9) 173 rfl (by decide +kernel) ?_
  refine hw_k (c := 0) (b := 0) (e := 1) (by decide +kernel) ?_
  refine hw_k (c := 6) (b := 1) (e := 2) (by decide +kernel) ?_
  refine hr_cp (a0 := 0) (b0 := 0) (e := 0) 21 177 6 rfl rfl rfl (by decide +kernel) (Nat.le_of_ble_eq_true rfl) ?_
  refine hw_ald (b := 1) (e := 0) (by decide +kernel) rfl (by decide) ?_
  refine hr_gr (w := 22) (b := 4) (e := 10) 17 rfl (by decide +kernel) ?_
  refine hw_k (c := 0) (b := 0) (e := 1) (by decide +kernel) ?_
  refine hw_ald (b := 0) (e := 0) (by decide +kernel) rfl (by decide) ?_
  refine hr_gr (w := 178) (b := 4) (e := 10) 173 rfl (by decide +kernel) ?_
  refine hw_k (c := 0) (b := 0) (e := 1) (by decide +kernel) ?_
  refine hw_k (c := 36) (b := 1) (e := 2) (by decide +kernel) ?_
  refine hr_cp (a0 := 0) (b0 := 0) (e := 0) 22 178 36 rfl rfl rfl (by decide +kernel) (Nat.le_of_ble_eq_true rfl) ?_
  refine hw_ald (b := 1) (e := 0) (by decide +kernel) rfl (by decide) ?_
  refine hr_gr (w := 23) (b := 4) (e := 11) 17 rfl (by decide +kernel) ?_
  refine hw_k (c := 0) (b := 0) (e := 1) (by decide +kernel) ?_
  refine hw_ald (b := 0) (e := 0) (by decide +kernel) rfl (by decide) ?_
  refine hr_gr (w := 179) (b := 4) (e := 11) 173 rfl (by decide +kernel) ?_
  refine hw_k (c := 0) (b := 0) (e := 1) (by decide +kernel) ?_
  refine hw_k (c := 6) (b := 1) (e := 2) (by decide +kernel) ?_
  refine hr_cp (a0 := 0) (b0 := 0) (e := 0) 23 179 6 rfl rfl rfl (by decide +kernel) (Nat.le_of_ble_eq_true rfl) ?_
  refine hw_ald (b := 1) (e := 0) (by decide +kernel) rfl (by decide) ?_
  refine hr_gr (w := 24) (b := 4) (e := 12) 17 rfl (by decide +kernel) ?_
  refine hw_k (c := 0) (b := 0) (e := 1) (by decide +kernel) ?_
  refine hw_ald (b := 0) (e := 0) (by decide +kernel) rfl (by decide) ?_
  refine hr_gr (w := 180) (b := 4) (e := 12) 173 rfl (by decide +kernel) ?_
  refine hw_k (c := 0) (b := 0) (e := 1) (by decide +kernel) ?_
  refine hw_k (c := 6) (b := 1) (e := 2) (by decide +kernel) ?_
  refine hr_cp (a0 := 0) (b0 := 0) (e := 0) 24 180 6 rfl rfl rfl (by decide +kernel) (Nat.le_of_ble_eq_true rfl) ?_
  refine hw_ald (b := 1) (e := 0) (by decide +kernel) rfl (by decide) ?_
  refine hr_gr (w := 25) (b := 4) (e := 13) 17 rfl (by decide +kernel) ?_
  refine hw_k (c := 0) (b := 0) (e := 1) (by decide +kernel) ?_
  refine hw_ald (b := 0) (e := 0) (by decide +kernel) rfl (by decide) ?_
  refine hr_gr (w := 181) (b := 4) (e := 13) 173 rfl (by decide +kernel) ?_
  refine hw_k (c := 0) (b := 0) (e := 1) (by decide +kernel) ?_
  refine hw_k (c := 8) (b := 1) (e := 2) (by decide +kernel) ?_
  refine hr_cp (a0 := 0) (b0 := 0) (e := 0) 25 181 8 rfl rfl rfl (by decide +kernel) (Nat.le_of_ble_eq_true rfl) ?_
  exact hw_vret (a0 := 0) (e := 0) (by decide +kernel) H
theorem sf_66_173_17 {sc : List Int} {d : Nat} {φ : hf_F} {x : Nat} {Q : Option jm_V → hf_F → Nat → Prop}  (hI : Inv φ)  (hQ : ∀ ψ : hf_F, Inv ψ → Fr [174, 175, 176, 177, 178, 179, 180, 181, 174000, 174001, 174002, 174003, 174004, 174005] φ ψ → F_State_copyFrom_173_17 φ = ψ → Q none ψ x) : hw sc d 66 0 [(0, (2, 173)), (1, (2, 17))] [] φ x Q := by
  apply sf_66_173_17_v
  have e0 : F_State_copyFrom_173_17 φ = _ := rfl
  have i1 : Inv (hf_up φ 173 0 (φ 17 0)) := iv_upn hI (by decide) (by decide) (by decide +kernel)
  have r1 : Fr [174, 175, 176, 177, 178, 179, 180, 181, 174000, 174001, 174002, 174003, 174004, 174005] φ (hf_up φ 173 0 (φ 17 0)) := fr_up (fr_rf) (by decide)
  have f2 := iv_at (a := 17) (k := 1) (lo := (-1 : Int)) (u := 7) hI (by decide +kernel)
  have i3 : Inv (hf_up (hf_up φ 173 0 (φ 17 0)) 173 1 (φ 17 1)) := iv_up (lo := (-1 : Int)) (u := 7) i1 (by decide +kernel) (by omega) (by omega)
  have r3 : Fr [174, 175, 176, 177, 178, 179, 180, 181, 174000, 174001, 174002, 174003, 174004, 174005] φ (hf_up (hf_up φ 173 0 (φ 17 0)) 173 1 (φ 17 1)) := fr_up r1 (by decide)
  have f4 := iv_at (a := 17) (k := 2) (lo := (-1 : Int)) (u := 5) hI (by decide +kernel)
  have i5 : Inv (hf_up (hf_up (hf_up φ 173 0 (φ 17 0)) 173 1 (φ 17 1)) 173 2 (φ 17 2)) := iv_up (lo := (-1 : Int)) (u := 5) i3 (by decide +kernel) (by omega) (by omega)
  have r5 : Fr [174, 175, 176, 177, 178, 179, 180, 181, 174000, 174001, 174002, 174003, 174004, 174005] φ (hf_up (hf_up (hf_up φ 173 0 (φ 17 0)) 173 1 (φ 17 1)) 173 2 (φ 17 2)) := fr_up r3 (by decide)
  have f6 := iv_at (a := 17) (k := 3) (lo := (-2147483648 : Int)) (u := 2147483647) hI (by decide +kernel)
  have i7 : Inv (hf_up (hf_up (hf_up (hf_up φ 173 0 (φ 17 0)) 173 1 (φ 17 1)) 173 2 (φ 17 2)) 173 3 (φ 17 3)) := iv_up (lo := (-2147483648 : Int)) (u := 2147483647) i5 (by decide +kernel) (by omega) (by omega)
  have r7 : Fr [174, 175, 176, 177, 178, 179, 180, 181, 174000, 174001, 174002, 174003, 174004, 174005] φ (hf_up (hf_up (hf_up (hf_up φ 173 0 (φ 17 0)) 173 1 (φ 17 1)) 173 2 (φ 17 2)) 173 3 (φ 17 3)) := fr_up r5 (by decide)
  have i8 : Inv (hf_up (hf_up (hf_up (hf_up (hf_up φ 173 0 (φ 17 0)) 173 1 (φ 17 1)) 173 2 (φ 17 2)) 173 3 (φ 17 3)) 173 4 (φ 17 4)) := iv_upn i7 (by decide) (by decide) (by decide +kernel)
  have r8 : Fr [174, 175, 176, 177, 178, 179, 180, 181, 174000, 174001, 174002, 174003, 174004, 174005] φ (hf_up (hf_up (hf_up (hf_up (hf_up φ 173 0 (φ 17 0)) 173 1 (φ 17 1)) 173 2 (φ 17 2)) 173 3 (φ 17 3)) 173 4 (φ 17 4)) := fr_up r7 (by decide)
  have i9 : Inv (hf_up (hf_up (hf_up (hf_up (hf_up (hf_up φ 173 0 (φ 17 0)) 173 1 (φ 17 1)) 173 2 (φ 17 2)) 173 3 (φ 17 3)) 173 4 (φ 17 4)) 173 5 (φ 17 5)) := iv_upn i8 (by decide) (by decide) (by decide +kernel)
  have r9 : Fr [174, 175, 176, 177, 178, 179, 180, 181, 174000, 174001, 174002, 174003, 174004, 174005] φ (hf_up (hf_up (hf_up (hf_up (hf_up (hf_up φ 173 0 (φ 17 0)) 173 1 (φ 17 1)) 173 2 (φ 17 2)) 173 3 (φ 17 3)) 173 4 (φ 17 4)) 173 5 (φ 17 5)) := fr_up r8 (by decide)
  have i10 : Inv (hf_cp (hf_up (hf_up (hf_up (hf_up (hf_up (hf_up φ 173 0 (φ 17 0)) 173 1 (φ 17 1)) 173 2 (φ 17 2)) 173 3 (φ 17 3)) 173 4 (φ 17 4)) 173 5 (φ 17 5)) 18 174 8) := iv_cp i9 (by decide) (by decide +kernel)
  have r10 : Fr [174, 175, 176, 177, 178, 179, 180, 181, 174000, 174001, 174002, 174003, 174004, 174005] φ (hf_cp (hf_up (hf_up (hf_up (hf_up (hf_up (hf_up φ 173 0 (φ 17 0)) 173 1 (φ 17 1)) 173 2 (φ 17 2)) 173 3 (φ 17 3)) 173 4 (φ 17 4)) 173 5 (φ 17 5)) 18 174 8) := fr_cp r9 (by decide)
  have i11 : Inv (hf_cp (hf_cp (hf_up (hf_up (hf_up (hf_up (hf_up (hf_up φ 173 0 (φ 17 0)) 173 1 (φ 17 1)) 173 2 (φ 17 2)) 173 3 (φ 17 3)) 173 4 (φ 17 4)) 173 5 (φ 17 5)) 18 174 8) 19 175 8) := iv_cp i10 (by decide) (by decide +kernel)
  have r11 : Fr [174, 175, 176, 177, 178, 179, 180, 181, 174000, 174001, 174002, 174003, 174004, 174005] φ (hf_cp (hf_cp (hf_up (hf_up (hf_up (hf_up (hf_up (hf_up φ 173 0 (φ 17 0)) 173 1 (φ 17 1)) 173 2 (φ 17 2)) 173 3 (φ 17 3)) 173 4 (φ 17 4)) 173 5 (φ 17 5)) 18 174 8) 19 175 8) := fr_cp r10 (by decide)
  have i12 : Inv (hf_cp (hf_cp (hf_cp (hf_up (hf_up (hf_up (hf_up (hf_up (hf_up φ 173 0 (φ 17 0)) 173 1 (φ 17 1)) 173 2 (φ 17 2)) 173 3 (φ 17 3)) 173 4 (φ 17 4)) 173 5 (φ 17 5)) 18 174 8) 19 175 8) 20 176 6) := iv_cp i11 (by decide) (by decide +kernel)
  have r12 : Fr [174, 175, 176, 177, 178, 179, 180, 181, 174000, 174001, 174002, 174003, 174004, 174005] φ (hf_cp (hf_cp (hf_cp (hf_up (hf_up (hf_up (hf_up (hf_up (hf_up φ 173 0 (φ 17 0)) 173 1 (φ 17 1)) 173 2 (φ 17 2)) 173 3 (φ 17 3)) 173 4 (φ 17 4)) 173 5 (φ 17 5)) 18 174 8) 19 175 8) 20 176 6) := fr_cp r11 (by decide)
  have i13 : Inv (hf_cp (hf_cp (hf_cp (hf_cp (hf_up (hf_up (hf_up (hf_up (hf_up (hf_up φ 173 0 (φ 17 0)) 173 1 (φ 17 1)) 173 2 (φ 17 2)) 173 3 (φ 17 3)) 173 4 (φ 17 4)) 173 5 (φ 17 5)) 18 174 8) 19 175 8) 20 176 6) 21 177 6) := iv_cp i12 (by decide) (by decide +kernel)
  have r13 : Fr [174, 175, 176, 177, 178, 179, 180, 181, 174000, 174001, 174002, 174003, 174004, 174005] φ (hf_cp (hf_cp (hf_cp (hf_cp (hf_up (hf_up (hf_up (hf_up (hf_up (hf_up φ 173 0 (φ 17 0)) 173 1 (φ 17 1)) 173 2 (φ 17 2)) 173 3 (φ 17 3)) 173 4 (φ 17 4)) 173 5 (φ 17 5)) 18 174 8) 19 175 8) 20 176 6) 21 177 6) := fr_cp r12 (by decide)
  have i14 : Inv (hf_cp (hf_cp (hf_cp (hf_cp (hf_cp (hf_up (hf_up (hf_up (hf_up (hf_up (hf_up φ 173 0 (φ 17 0)) 173 1 (φ 17 1)) 173 2 (φ 17 2)) 173 3 (φ 17 3)) 173 4 (φ 17 4)) 173 5 (φ 17 5)) 18 174 8) 19 175 8) 20 176 6) 21 177 6) 22 178 36) := iv_cp i13 (by decide) (by decide +kernel)
  have r14 : Fr [174, 175, 176, 177, 178, 179, 180, 181, 174000, 174001, 174002, 174003, 174004, 174005] φ (hf_cp (hf_cp (hf_cp (hf_cp (hf_cp (hf_up (hf_up (hf_up (hf_up (hf_up (hf_up φ 173 0 (φ 17 0)) 173 1 (φ 17 1)) 173 2 (φ 17 2)) 173 3 (φ 17 3)) 173 4 (φ 17 4)) 173 5 (φ 17 5)) 18 174 8) 19 175 8) 20 176 6) 21 177 6) 22 178 36) := fr_cp r13 (by decide)
  have i15 : Inv (hf_cp (hf_cp (hf_cp (hf_cp (hf_cp (hf_cp (hf_up (hf_up (hf_up (hf_up (hf_up (hf_up φ 173 0 (φ 17 0)) 173 1 (φ 17 1)) 173 2 (φ 17 2)) 173 3 (φ 17 3)) 173 4 (φ 17 4)) 173 5 (φ 17 5)) 18 174 8) 19 175 8) 20 176 6) 21 177 6) 22 178 36) 23 179 6) := iv_cp i14 (by decide) (by decide +kernel)
  have r15 : Fr [174, 175, 176, 177, 178, 179, 180, 181, 174000, 174001, 174002, 174003, 174004, 174005] φ (hf_cp (hf_cp (hf_cp (hf_cp (hf_cp (hf_cp (hf_up (hf_up (hf_up (hf_up (hf_up (hf_up φ 173 0 (φ 17 0)) 173 1 (φ 17 1)) 173 2 (φ 17 2)) 173 3 (φ 17 3)) 173 4 (φ 17 4)) 173 5 (φ 17 5)) 18 174 8) 19 175 8) 20 176 6) 21 177 6) 22 178 36) 23 179 6) := fr_cp r14 (by decide)
  have i16 : Inv (hf_cp (hf_cp (hf_cp (hf_cp (hf_cp (hf_cp (hf_cp (hf_up (hf_up (hf_up (hf_up (hf_up (hf_up φ 173 0 (φ 17 0)) 173 1 (φ 17 1)) 173 2 (φ 17 2)) 173 3 (φ 17 3)) 173 4 (φ 17 4)) 173 5 (φ 17 5)) 18 174 8) 19 175 8) 20 176 6) 21 177 6) 22 178 36) 23 179 6) 24 180 6) := iv_cp i15 (by decide) (by decide +kernel)
  have r16 : Fr [174, 175, 176, 177, 178, 179, 180, 181, 174000, 174001, 174002, 174003, 174004, 174005] φ (hf_cp (hf_cp (hf_cp (hf_cp (hf_cp (hf_cp (hf_cp (hf_up (hf_up (hf_up (hf_up (hf_up (hf_up φ 173 0 (φ 17 0)) 173 1 (φ 17 1)) 173 2 (φ 17 2)) 173 3 (φ 17 3)) 173 4 (φ 17 4)) 173 5 (φ 17 5)) 18 174 8) 19 175 8) 20 176 6) 21 177 6) 22 178 36) 23 179 6) 24 180 6) := fr_cp r15 (by decide)
  have i17 : Inv (hf_cp (hf_cp (hf_cp (hf_cp (hf_cp (hf_cp (hf_cp (hf_cp (hf_up (hf_up (hf_up (hf_up (hf_up (hf_up φ 173 0 (φ 17 0)) 173 1 (φ 17 1)) 173 2 (φ 17 2)) 173 3 (φ 17 3)) 173 4 (φ 17 4)) 173 5 (φ 17 5)) 18 174 8) 19 175 8) 20 176 6) 21 177 6) 22 178 36) 23 179 6) 24 180 6) 25 181 8) := iv_cp i16 (by decide) (by decide +kernel)
  have r17 : Fr [174, 175, 176, 177, 178, 179, 180, 181, 174000, 174001, 174002, 174003, 174004, 174005] φ (hf_cp (hf_cp (hf_cp (hf_cp (hf_cp (hf_cp (hf_cp (hf_cp (hf_up (hf_up (hf_up (hf_up (hf_up (hf_up φ 173 0 (φ 17 0)) 173 1 (φ 17 1)) 173 2 (φ 17 2)) 173 3 (φ 17 3)) 173 4 (φ 17 4)) 173 5 (φ 17 5)) 18 174 8) 19 175 8) 20 176 6) 21 177 6) 22 178 36) 23 179 6) 24 180 6) 25 181 8) := fr_cp r16 (by decide)
  exact hQ (hf_cp (hf_cp (hf_cp (hf_cp (hf_cp (hf_cp (hf_cp (hf_cp (hf_up (hf_up (hf_up (hf_up (hf_up (hf_up φ 173 0 (φ 17 0)) 173 1 (φ 17 1)) 173 2 (φ 17 2)) 173 3 (φ 17 3)) 173 4 (φ 17 4)) 173 5 (φ 17 5)) 18 174 8) 19 175 8) 20 176 6) 21 177 6) 22 178 36) 23 179 6) 24 180 6) 25 181 8) i17 r17 e0
theorem sf_80_108_17_v {sc : List Int} {d : Nat} {φ : hf_F} {x : Nat} {Q : Option jm_V → hf_F → Nat → Prop} 
    (H : hi (φ 108 1) ∧ hi 8 ∧ ((φ 108 1) < 8 → 0 ≤ (φ 108 1) ∧ (φ 108 1) < 8 ∧ Bf1 (φ 109 ((φ 108 1).toNat)) ∧ ((φ 109 ((φ 108 1).toNat)) = 110 → hw sc d 66 0 [(0, (2, 110)), (1, (2, 17))] [] φ x (fun r ψ3 y3 => y3 = x ∧ (r = none ∧ (Q none (hf_up ψ3 108 1 ((ψ3 108 1) + 1)) x)))) ∧ ((φ 109 ((φ 108 1).toNat)) = 119 → hw sc d 66 0 [(0, (2, 119)), (1, (2, 17))] [] φ x (fun r ψ5 y5 => y5 = x ∧ (r = none ∧ (Q none (hf_up ψ5 108 1 ((ψ5 108 1) + 1)) x)))) ∧ ((φ 109 ((φ 108 1).toNat)) = 128 → hw sc d 66 0 [(0, (2, 128)), (1, (2, 17))] [] φ x (fun r ψ7 y7 => y7 = x ∧ (r = none ∧ (Q none (hf_up ψ7 108 1 ((ψ7 108 1) + 1)) x)))) ∧ ((φ 109 ((φ 108 1).toNat)) = 137 → hw sc d 66 0 [(0, (2, 137)), (1, (2, 17))] [] φ x (fun r ψ9 y9 => y9 = x ∧ (r = none ∧ (Q none (hf_up ψ9 108 1 ((ψ9 108 1) + 1)) x)))) ∧ ((φ 109 ((φ 108 1).toNat)) = 146 → hw sc d 66 0 [(0, (2, 146)), (1, (2, 17))] [] φ x (fun r ψ11 y11 => y11 = x ∧ (r = none ∧ (Q none (hf_up ψ11 108 1 ((ψ11 108 1) + 1)) x)))) ∧ ((φ 109 ((φ 108 1).toNat)) = 155 → hw sc d 66 0 [(0, (2, 155)), (1, (2, 17))] [] φ x (fun r ψ13 y13 => y13 = x ∧ (r = none ∧ (Q none (hf_up ψ13 108 1 ((ψ13 108 1) + 1)) x)))) ∧ ((φ 109 ((φ 108 1).toNat)) = 164 → hw sc d 66 0 [(0, (2, 164)), (1, (2, 17))] [] φ x (fun r ψ15 y15 => y15 = x ∧ (r = none ∧ (Q none (hf_up ψ15 108 1 ((ψ15 108 1) + 1)) x)))) ∧ ((φ 109 ((φ 108 1).toNat)) = 173 → hw sc d 66 0 [(0, (2, 173)), (1, (2, 17))] [] φ x (fun r ψ17 y17 => y17 = x ∧ (r = none ∧ (Q none (hf_up ψ17 108 1 ((ψ17 108 1) + 1)) x))))) ∧ (¬ (φ 108 1) < 8 → hw sc d 81 0 [(0, (2, 108))] [] φ x (fun r ψ19 y19 => y19 = x ∧ (r = none ∧ (0 ≤ (ψ19 108 1) ∧ (ψ19 108 1) < 8 ∧ Bf1 (ψ19 109 ((ψ19 108 1).toNat)) ∧ ((ψ19 109 ((ψ19 108 1).toNat)) = 110 → hw sc d 66 0 [(0, (2, 110)), (1, (2, 17))] [] ψ19 x (fun r ψ21 y21 => y21 = x ∧ (r = none ∧ (Q none (hf_up ψ21 108 1 ((ψ21 108 1) + 1)) x)))) ∧ ((ψ19 109 ((ψ19 108 1).toNat)) = 119 → hw sc d 66 0 [(0, (2, 119)), (1, (2, 17))] [] ψ19 x (fun r ψ23 y23 => y23 = x ∧ (r = none ∧ (Q none (hf_up ψ23 108 1 ((ψ23 108 1) + 1)) x)))) ∧ ((ψ19 109 ((ψ19 108 1).toNat)) = 128 → hw sc d 66 0 [(0, (2, 128)), (1, (2, 17))] [] ψ19 x (fun r ψ25 y25 => y25 = x ∧ (r = none ∧ (Q none (hf_up ψ25 108 1 ((ψ25 108 1) + 1)) x)))) ∧ ((ψ19 109 ((ψ19 108 1).toNat)) = 137 → hw sc d 66 0 [(0, (2, 137)), (1, (2, 17))] [] ψ19 x (fun r ψ27 y27 => y27 = x ∧ (r = none ∧ (Q none (hf_up ψ27 108 1 ((ψ27 108 1) + 1)) x)))) ∧ ((ψ19 109 ((ψ19 108 1).toNat)) = 146 → hw sc d 66 0 [(0, (2, 146)), (1, (2, 17))] [] ψ19 x (fun r ψ29 y29 => y29 = x ∧ (r = none ∧ (Q none (hf_up ψ29 108 1 ((ψ29 108 1) + 1)) x)))) ∧ ((ψ19 109 ((ψ19 108 1).toNat)) = 155 → hw sc d 66 0 [(0, (2, 155)), (1, (2, 17))] [] ψ19 x (fun r ψ31 y31 => y31 = x ∧ (r = none ∧ (Q none (hf_up ψ31 108 1 ((ψ31 108 1) + 1)) x)))) ∧ ((ψ19 109 ((ψ19 108 1).toNat)) = 164 → hw sc d 66 0 [(0, (2, 164)), (1, (2, 17))] [] ψ19 x (fun r ψ33 y33 => y33 = x ∧ (r = none ∧ (Q none (hf_up ψ33 108 1 ((ψ33 108 1) + 1)) x)))) ∧ ((ψ19 109 ((ψ19 108 1).toNat)) = 173 → hw sc d 66 0 [(0, (2, 173)), (1, (2, 17))] [] ψ19 x (fun r ψ35 y35 => y35 = x ∧ (r = none ∧ (Q none (hf_up ψ35 108 1 ((ψ35 108 1) + 1)) x))))))))) :
    hw sc (d + 1) 80 0 [(0, (2, 108)), (1, (2, 17))] [] φ x Q := by
  refine hw_ald (b := 0) (e := 0) (by decide +kernel) rfl (by decide) ?_
  refine hr_gi (w := φ 108 1) (b := 6) (e := 1) 108 rfl (by decide +kernel) rfl ?_
  refine hw_k (c := 8) (b := 1) (e := 2) (by decide +kernel) ?_
  obtain ⟨hz1, hy1, ht1, hf1⟩ := H
  refine hw_if2 (a0 := 0) (b := 2) (e := 13) (by decide +kernel) hz1 hy1 (fun q => ?_) (fun q => ?_)
  · have H := ht1 q
    refine hw_ald (b := 0) (e := 0) (by decide +kernel) rfl (by decide) ?_
    refine hr_gr (w := 109) (b := 6) (e := 0) 108 rfl (by decide +kernel) ?_
    refine hw_ald (b := 0) (e := 0) (by decide +kernel) rfl (by decide) ?_
    refine hr_gi (w := φ 108 1) (b := 6) (e := 1) 108 rfl (by decide +kernel) rfl ?_
    obtain ⟨hl2, hu2, H⟩ := H
    obtain ⟨hm2, H⟩ := H
    rcases hm2 with hm | hm | hm | hm | hm | hm | hm | hm
    · have H := H.1 hm
      refine hr_ala (a0 := 0) (e := 0) (n := 8) (w := 110) 109 rfl (by decide +kernel) hl2 hu2 hm ?_
      refine hw_ald (b := 1) (e := 0) (by decide +kernel) rfl (by decide) ?_
      refine hr_call (a0 := 14) (b := 66) (e := 2) (nl := 2) (As := [(2, 17)]) (R := []) 110 rfl (by decide +kernel) rfl rfl (Nat.le_of_ble_eq_true rfl) (Nat.le_of_ble_eq_true rfl) ?_
      refine hw_mono H ?_
      rintro r ψ3 y3 ⟨hyx, hr, H⟩
      subst hyx
      subst hr
      refine ⟨hnen, ?_⟩
      show hw sc (d + 1) 80 26 [(0, (2, 108)), (1, (2, 17))] [] ψ3 y3 Q
      refine hw_ald (b := 0) (e := 0) (by decide +kernel) rfl (by decide) ?_
      refine hw_dup (a0 := 0) (e := 0) (by decide +kernel) (by decide) ?_
      refine hr_gi (w := ψ3 108 1) (b := 6) (e := 1) 108 rfl (by decide +kernel) rfl ?_
      refine hw_k (c := 1) (b := 0) (e := 1) (by decide +kernel) ?_
      refine hw_bin (w := (ψ3 108 1) + 1) (a0 := 0) (b := 0) (e := 0) (by decide +kernel) rfl ?_
      refine hr_pi (b := 6) (e := 1) 108 rfl (by decide +kernel) ?_
      exact hw_vret (a0 := 0) (e := 0) (by decide +kernel) H
    · have H := H.2.1 hm
      refine hr_ala (a0 := 0) (e := 0) (n := 8) (w := 119) 109 rfl (by decide +kernel) hl2 hu2 hm ?_
      refine hw_ald (b := 1) (e := 0) (by decide +kernel) rfl (by decide) ?_
      refine hr_call (a0 := 14) (b := 66) (e := 2) (nl := 2) (As := [(2, 17)]) (R := []) 119 rfl (by decide +kernel) rfl rfl (Nat.le_of_ble_eq_true rfl) (Nat.le_of_ble_eq_true rfl) ?_
      refine hw_mono H ?_
      rintro r ψ5 y5 ⟨hyx, hr, H⟩
      subst hyx
      subst hr
      refine ⟨hnen, ?_⟩
      show hw sc (d + 1) 80 26 [(0, (2, 108)), (1, (2, 17))] [] ψ5 y5 Q
      refine hw_ald (b := 0) (e := 0) (by decide +kernel) rfl (by decide) ?_
      refine hw_dup (a0 := 0) (e := 0) (by decide +kernel) (by decide) ?_
      refine hr_gi (w := ψ5 108 1) (b := 6) (e := 1) 108 rfl (by decide +kernel) rfl ?_
      refine hw_k (c := 1) (b := 0) (e := 1) (by decide +kernel) ?_
      refine hw_bin (w := (ψ5 108 1) + 1) (a0 := 0) (b := 0) (e := 0) (by decide +kernel) rfl ?_
      refine hr_pi (b := 6) (e := 1) 108 rfl (by decide +kernel) ?_
      exact hw_vret (a0 := 0) (e := 0) (by decide +kernel) H
    · have H := H.2.2.1 hm
      refine hr_ala (a0 := 0) (e := 0) (n := 8) (w := 128) 109 rfl (by decide +kernel) hl2 hu2 hm ?_
      refine hw_ald (b := 1) (e := 0) (by decide +kernel) rfl (by decide) ?_
      refine hr_call (a0 := 14) (b := 66) (e := 2) (nl := 2) (As := [(2, 17)]) (R := []) 128 rfl (by decide +kernel) rfl rfl (Nat.le_of_ble_eq_true rfl) (Nat.le_of_ble_eq_true rfl) ?_
      refine hw_mono H ?_
      rintro r ψ7 y7 ⟨hyx, hr, H⟩
      subst hyx
      subst hr
      refine ⟨hnen, ?_⟩
      show hw sc (d + 1) 80 26 [(0, (2, 108)), (1, (2, 17))] [] ψ7 y7 Q
      refine hw_ald (b := 0) (e := 0) (by decide +kernel) rfl (by decide) ?_
      refine hw_dup (a0 := 0) (e := 0) (by decide +kernel) (by decide) ?_
      refine hr_gi (w := ψ7 108 1) (b := 6) (e := 1) 108 rfl (by decide +kernel) rfl ?_
      refine hw_k (c := 1) (b := 0) (e := 1) (by decide +kernel) ?_
      refine hw_bin (w := (ψ7 108 1) + 1) (a0 := 0) (b := 0) (e := 0) (by decide +kernel) rfl ?_
      refine hr_pi (b := 6) (e := 1) 108 rfl (by decide +kernel) ?_
      exact hw_vret (a0 := 0) (e := 0) (by decide +kernel) H
    · have H := H.2.2.2.1 hm
      refine hr_ala (a0 := 0) (e := 0) (n := 8) (w := 137) 109 rfl (by decide +kernel) hl2 hu2 hm ?_
      refine hw_ald (b := 1) (e := 0) (by decide +kernel) rfl (by decide) ?_
      refine hr_call (a0 := 14) (b := 66) (e := 2) (nl := 2) (As := [(2, 17)]) (R := []) 137 rfl (by decide +kernel) rfl rfl (Nat.le_of_ble_eq_true rfl) (Nat.le_of_ble_eq_true rfl) ?_
      refine hw_mono H ?_
      rintro r ψ9 y9 ⟨hyx, hr, H⟩
      subst hyx
      subst hr
      refine ⟨hnen, ?_⟩
      show hw sc (d + 1) 80 26 [(0, (2, 108)), (1, (2, 17))] [] ψ9 y9 Q
      refine hw_ald (b := 0) (e := 0) (by decide +kernel) rfl (by decide) ?_
      refine hw_dup (a0 := 0) (e := 0) (by decide +kernel) (by decide) ?_
      refine hr_gi (w := ψ9 108 1) (b := 6) (e := 1) 108 rfl (by decide +kernel) rfl ?_
      refine hw_k (c := 1) (b := 0) (e := 1) (by decide +kernel) ?_
      refine hw_bin (w := (ψ9 108 1) + 1) (a0 := 0) (b := 0) (e := 0) (by decide +kernel) rfl ?_
      refine hr_pi (b := 6) (e := 1) 108 rfl (by decide +kernel) ?_
      exact hw_vret (a0 := 0) (e := 0) (by decide +kernel) H
    · have H := H.2.2.2.2.1 hm
      refine hr_ala (a0 := 0) (e := 0) (n := 8) (w := 146) 109 rfl (by decide +kernel) hl2 hu2 hm ?_
      refine hw_ald (b := 1) (e := 0) (by decide +kernel) rfl (by decide) ?_
      refine hr_call (a0 := 14) (b := 66) (e := 2) (nl := 2) (As := [(2, 17)]) (R := []) 146 rfl (by decide +kernel) rfl rfl (Nat.le_of_ble_eq_true rfl) (Nat.le_of_ble_eq_true rfl) ?_
      refine hw_mono H ?_
      rintro r ψ11 y11 ⟨hyx, hr, H⟩
      subst hyx
      subst hr
      refine ⟨hnen, ?_⟩
      show hw sc (d + 1) 80 26 [(0, (2, 108)), (1, (2, 17))] [] ψ11 y11 Q
      refine hw_ald (b := 0) (e := 0) (by decide +kernel) rfl (by decide) ?_
      refine hw_dup (a0 := 0) (e := 0) (by decide +kernel) (by decide) ?_
      refine hr_gi (w := ψ11 108 1) (b := 6) (e := 1) 108 rfl (by decide +kernel) rfl ?_
      refine hw_k (c := 1) (b := 0) (e := 1) (by decide +kernel) ?_
      refine hw_bin (w := (ψ11 108 1) + 1) (a0 := 0) (b := 0) (e := 0) (by decide +kernel) rfl ?_
      refine hr_pi (b := 6) (e := 1) 108 rfl (by decide +kernel) ?_
      exact hw_vret (a0 := 0) (e := 0) (by decide +kernel) H
    · have H := H.2.2.2.2.2.1 hm
      refine hr_ala (a0 := 0) (e := 0) (n := 8) (w := 155) 109 rfl (by decide +kernel) hl2 hu2 hm ?_
      refine hw_ald (b := 1) (e := 0) (by decide +kernel) rfl (by decide) ?_
      refine hr_call (a0 := 14) (b := 66) (e := 2) (nl := 2) (As := [(2, 17)]) (R := []) 155 rfl (by decide +kernel) rfl rfl (Nat.le_of_ble_eq_true rfl) (Nat.le_of_ble_eq_true rfl) ?_
      refine hw_mono H ?_
      rintro r ψ13 y13 ⟨hyx, hr, H⟩
      subst hyx
      subst hr
      refine ⟨hnen, ?_⟩
      show hw sc (d + 1) 80 26 [(0, (2, 108)), (1, (2, 17))] [] ψ13 y13 Q
      refine hw_ald (b := 0) (e := 0) (by decide +kernel) rfl (by decide) ?_
      refine hw_dup (a0 := 0) (e := 0) (by decide +kernel) (by decide) ?_
      refine hr_gi (w := ψ13 108 1) (b := 6) (e := 1) 108 rfl (by decide +kernel) rfl ?_
      refine hw_k (c := 1) (b := 0) (e := 1) (by decide +kernel) ?_
      refine hw_bin (w := (ψ13 108 1) + 1) (a0 := 0) (b := 0) (e := 0) (by decide +kernel) rfl ?_
      refine hr_pi (b := 6) (e := 1) 108 rfl (by decide +kernel) ?_
      exact hw_vret (a0 := 0) (e := 0) (by decide +kernel) H
    · have H := H.2.2.2.2.2.2.1 hm
      refine hr_ala (a0 := 0) (e := 0) (n := 8) (w := 164) 109 rfl (by decide +kernel) hl2 hu2 hm ?_
      refine hw_ald (b := 1) (e := 0) (by decide +kernel) rfl (by decide) ?_
      refine hr_call (a0 := 14) (b := 66) (e := 2) (nl := 2) (As := [(2, 17)]) (R := []) 164 rfl (by decide +kernel) rfl rfl (Nat.le_of_ble_eq_true rfl) (Nat.le_of_ble_eq_true rfl) ?_
      refine hw_mono H ?_
      rintro r ψ15 y15 ⟨hyx, hr, H⟩
      subst hyx
      subst hr
      refine ⟨hnen, ?_⟩
      show hw sc (d + 1) 80 26 [(0, (2, 108)), (1, (2, 17))] [] ψ15 y15 Q
      refine hw_ald (b := 0) (e := 0) (by decide +kernel) rfl (by decide) ?_
      refine hw_dup (a0 := 0) (e := 0) (by decide +kernel) (by decide) ?_
      refine hr_gi (w := ψ15 108 1) (b := 6) (e := 1) 108 rfl (by decide +kernel) rfl ?_
      refine hw_k (c := 1) (b := 0) (e := 1) (by decide +kernel) ?_
      refine hw_bin (w := (ψ15 108 1) + 1) (a0 := 0) (b := 0) (e := 0) (by decide +kernel) rfl ?_
      refine hr_pi (b := 6) (e := 1) 108 rfl (by decide +kernel) ?_
      exact hw_vret (a0 := 0) (e := 0) (by decide +kernel) H
    · have H := H.2.2.2.2.2.2.2 hm
      refine hr_ala (a0 := 0) (e := 0) (n := 8) (w := 173) 109 rfl (by decide +kernel) hl2 hu2 hm ?_
      refine hw_ald (b := 1) (e := 0) (by decide +kernel) rfl (by decide) ?_
      refine hr_call (a0 := 14) (b := 66) (e := 2) (nl := 2) (As := [(2, 17)]) (R := []) 173 rfl (by decide +kernel) rfl rfl (Nat.le_of_ble_eq_true rfl) (Nat.le_of_ble_eq_true rfl) ?_
      refine hw_mono H ?_
      rintro r ψ17 y17 ⟨hyx, hr, H⟩
      subst hyx
      subst hr
      refine ⟨hnen, ?_⟩
      show hw sc (d + 1) 80 26 [(0, (2, 108)), (1, (2, 17))] [] ψ17 y17 Q
      refine hw_ald (b := 0) (e := 0) (by decide +kernel) rfl (by decide) ?_
      refine hw_dup (a0 := 0) (e := 0) (by decide +kernel) (by decide) ?_
      refine hr_gi (w := ψ17 108 1) (b := 6) (e := 1) 108 rfl (by decide +kernel) rfl ?_
      refine hw_k (c := 1) (b := 0) (e := 1) (by decide +kernel) ?_
      refine hw_bin (w := (ψ17 108 1) + 1) (a0 := 0) (b := 0) (e := 0) (by decide +kernel) rfl ?_
      refine hr_pi (b := 6) (e := 1) 108 rfl (by decide +kernel) ?_
      exact hw_vret (a0 := 0) (e := 0) (by decide +kernel) H
  · have H := hf1 q
    refine hw_ald (b := 0) (e := 0) (by decide +kernel) rfl (by decide) ?_
    refine hr_call (a0 := 16) (b := 81) (e := 1) (nl := 3) (As := []) (R := []) 108 rfl (by decide +kernel) rfl rfl (Nat.le_of_ble_eq_true rfl) (Nat.le_of_ble_eq_true rfl) ?_
    refine hw_mono H ?_
    rintro r ψ19 y19 ⟨hyx, hr, H⟩
    subst hyx
    subst hr
    refine ⟨hnen, ?_⟩
    show hw sc (d + 1) 80 13 [(0, (2, 108)), (1, (2, 17))] [] ψ19 y19 Q
    refine hw_ald (b := 0) (e := 0) (by decide +kernel) rfl (by decide) ?_
    refine hr_gr (w := 109) (b := 6) (e := 0) 108 rfl (by decide +kernel) ?_
    refine hw_ald (b := 0) (e := 0) (by decide +kernel) rfl (by decide) ?_
    refine hr_gi (w := ψ19 108 1) (b := 6) (e := 1) 108 rfl (by decide +kernel) rfl ?_
    obtain ⟨hl20, hu20, H⟩ := H
    obtain ⟨hm20, H⟩ := H
    rcases hm20 with hm | hm | hm | hm | hm | hm | hm | hm
    · have H := H.1 hm
      refine hr_ala (a0 := 0) (e := 0) (n := 8) (w := 110) 109 rfl (by decide +kernel) hl20 hu20 hm ?_
      refine hw_ald (b := 1) (e := 0) (by decide +kernel) rfl (by decide) ?_
      refine hr_call (a0 := 14) (b := 66) (e := 2) (nl := 2) (As := [(2, 17)]) (R := []) 110 rfl (by decide +kernel) rfl rfl (Nat.le_of_ble_eq_true rfl) (Nat.le_of_ble_eq_true rfl) ?_
      refine hw_mono H ?_
      rintro r ψ21 y21 ⟨hyx, hr, H⟩
      subst hyx
      subst hr
      refine ⟨hnen, ?_⟩
      show hw sc (d + 1) 80 26 [(0, (2, 108)), (1, (2, 17))] [] ψ21 y21 Q
      refine hw_ald (b := 0) (e := 0) (by decide +kernel) rfl (by decide) ?_
      refine hw_dup (a0 := 0) (e := 0) (by decide +kernel) (by decide) ?_
      refine hr_gi (w := ψ21 108 1) (b := 6) (e := 1) 108 rfl (by decide +kernel) rfl ?_
      refine hw_k (c := 1) (b := 0) (e := 1) (by decide +kernel) ?_
      refine hw_bin (w := (ψ21 108 1) + 1) (a0 := 0) (b := 0) (e := 0) (by decide +kernel) rfl ?_
      refine hr_pi (b := 6) (e := 1) 108 rfl (by decide +kernel) ?_
      exact hw_vret (a0 := 0) (e := 0) (by decide +kernel) H
    · have H := H.2.1 hm
      refine hr_ala (a0 := 0) (e := 0) (n := 8) (w := 119) 109 rfl (by decide +kernel) hl20 hu20 hm ?_
      refine hw_ald (b := 1) (e := 0) (by decide +kernel) rfl (by decide) ?_
      refine hr_call (a0 := 14) (b := 66) (e := 2) (nl := 2) (As := [(2, 17)]) (R := []) 119 rfl (by decide +kernel) rfl rfl (Nat.le_of_ble_eq_true rfl) (Nat.le_of_ble_eq_true rfl) ?_
      refine hw_mono H ?_
      rintro r ψ23 y23 ⟨hyx, hr, H⟩
      subst hyx
      subst hr
      refine ⟨hnen, ?_⟩
      show hw sc (d + 1) 80 26 [(0, (2, 108)), (1, (2, 17))] [] ψ23 y23 Q
      refine hw_ald (b := 0) (e := 0) (by decide +kernel) rfl (by decide) ?_
      refine hw_dup (a0 := 0) (e := 0) (by decide +kernel) (by decide) ?_
      refine hr_gi (w := ψ23 108 1) (b := 6) (e := 1) 108 rfl (by decide +kernel) rfl ?_
      refine hw_k (c := 1) (b := 0) (e := 1) (by decide +kernel) ?_
      refine hw_bin (w := (ψ23 108 1) + 1) (a0 := 0) (b := 0) (e := 0) (by decide +kernel) rfl ?_
      refine hr_pi (b := 6) (e := 1) 108 rfl (by decide +kernel) ?_
      exact hw_vret (a0 := 0) (e := 0) (by decide +kernel) H
    · have H := H.2.2.1 hm
      refine hr_ala (a0 := 0) (e := 0) (n := 8) (w := 128) 109 rfl (by decide +kernel) hl20 hu20 hm ?_
      refine hw_ald (b := 1) (e := 0) (by decide +kernel) rfl (by decide) ?_
      refine hr_call (a0 := 14) (b := 66) (e := 2) (nl := 2) (As := [(2, 17)]) (R := []) 128 rfl (by decide +kernel) rfl rfl (Nat.le_of_ble_eq_true rfl) (Nat.le_of_ble_eq_true rfl) ?_
      refine hw_mono H ?_
      rintro r ψ25 y25 ⟨hyx, hr, H⟩
      subst hyx
      subst hr
      refine ⟨hnen, ?_⟩
      show hw sc (d + 1) 80 26 [(0, (2, 108)), (1, (2, 17))] [] ψ25 y25 Q
      refine hw_ald (b := 0) (e := 0) (by decide +kernel) rfl (by decide) ?_
      refine hw_dup (a0 := 0) (e := 0) (by decide +kernel) (by decide) ?_
      refine hr_gi (w := ψ25 108 1) (b := 6) (e := 1) 108 rfl (by decide +kernel) rfl ?_
      refine hw_k (c := 1) (b := 0) (e := 1) (by decide +kernel) ?_
      refine hw_bin (w := (ψ25 108 1) + 1) (a0 := 0) (b := 0) (e := 0) (by decide +kernel) rfl ?_
      refine hr_pi (b := 6) (e := 1) 108 rfl (by decide +kernel) ?_
      exact hw_vret (a0 := 0) (e := 0) (by decide +kernel) H
    · have H := H.2.2.2.1 hm
      refine hr_ala (a0 := 0) (e := 0) (n := 8) (w := 137) 109 rfl (by decide +kernel) hl20 hu20 hm ?_
      refine hw_ald (b := 1) (e := 0) (by decide +kernel) rfl (by decide) ?_
      refine hr_call (a0 := 14) (b := 66) (e := 2) (nl := 2) (As := [(2, 17)]) (R := []) 137 rfl (by decide +kernel) rfl rfl (Nat.le_of_ble_eq_true rfl) (Nat.le_of_ble_eq_true rfl) ?_
      refine hw_mono H ?_
      rintro r ψ27 y27 ⟨hyx, hr, H⟩
      subst hyx
      subst hr
      refine ⟨hnen, ?_⟩
      show hw sc (d + 1) 80 26 [(0, (2, 108)), (1, (2, 17))] [] ψ27 y27 Q
      refine hw_ald (b := 0) (e := 0) (by decide +kernel) rfl (by decide) ?_
      refine hw_dup (a0 := 0) (e := 0) (by decide +kernel) (by decide) ?_
      refine hr_gi (w := ψ27 108 1) (b := 6) (e := 1) 108 rfl (by decide +kernel) rfl ?_
      refine hw_k (c := 1) (b := 0) (e := 1) (by decide +kernel) ?_
      refine hw_bin (w := (ψ27 108 1) + 1) (a0 := 0) (b := 0) (e := 0) (by decide +kernel) rfl ?_
      refine hr_pi (b := 6) (e := 1) 108 rfl (by decide +kernel) ?_
      exact hw_vret (a0 := 0) (e := 0) (by decide +kernel) H
    · have H := H.2.2.2.2.1 hm
      refine hr_ala (a0 := 0) (e := 0) (n := 8) (w := 146) 109 rfl (by decide +kernel) hl20 hu20 hm ?_
      refine hw_ald (b := 1) (e := 0) (by decide +kernel) rfl (by decide) ?_
      refine hr_call (a0 := 14) (b := 66) (e := 2) (nl := 2) (As := [(2, 17)]) (R := []) 146 rfl (by decide +kernel) rfl rfl (Nat.le_of_ble_eq_true rfl) (Nat.le_of_ble_eq_true rfl) ?_
      refine hw_mono H ?_
      rintro r ψ29 y29 ⟨hyx, hr, H⟩
      subst hyx
      subst hr
      refine ⟨hnen, ?_⟩
      show hw sc (d + 1) 80 26 [(0, (2, 108)), (1, (2, 17))] [] ψ29 y29 Q
      refine hw_ald (b := 0) (e := 0) (by decide +kernel) rfl (by decide) ?_
      refine hw_dup (a0 := 0) (e := 0) (by decide +kernel) (by decide) ?_
      refine hr_gi (w := ψ29 108 1) (b := 6) (e := 1) 108 rfl (by decide +kernel) rfl ?_
      refine hw_k (c := 1) (b := 0) (e := 1) (by decide +kernel) ?_
      refine hw_bin (w := (ψ29 108 1) + 1) (a0 := 0) (b := 0) (e := 0) (by decide +kernel) rfl ?_
      refine hr_pi (b := 6) (e := 1) 108 rfl (by decide +kernel) ?_
      exact hw_vret (a0 := 0) (e := 0) (by decide +kernel) H
    · have H := H.2.2.2.2.2.1 hm
      refine hr_ala (a0 := 0) (e := 0) (n := 8) (w := 155) 109 rfl (by decide +kernel) hl20 hu20 hm ?_
      refine hw_ald (b := 1) (e := 0) (by decide +kernel) rfl (by decide) ?_
      refine hr_call (a0 := 14) (b := 66) (e := 2) (nl := 2) (As := [(2, 17)]) (R := []) 155 rfl (by decide +kernel) rfl rfl (Nat.le_of_ble_eq_true rfl) (Nat.le_of_ble_eq_true rfl) ?_
      refine hw_mono H ?_
      rintro r ψ31 y31 ⟨hyx, hr, H⟩
      subst hyx
      subst hr
      refine ⟨hnen, ?_⟩
      show hw sc (d + 1) 80 26 [(0, (2, 108)), (1, (2, 17))] [] ψ31 y31 Q
      refine hw_ald (b := 0) (e := 0) (by decide +kernel) rfl (by decide) ?_
      refine hw_dup (a0 := 0) (e := 0) (by decide +kernel) (by decide) ?_
      refine hr_gi (w := ψ31 108 1) (b := 6) (e := 1) 108 rfl (by decide +kernel) rfl ?_
      refine hw_k (c := 1) (b := 0) (e := 1) (by decide +kernel) ?_
      refine hw_bin (w := (ψ31 108 1) + 1) (a0 := 0) (b := 0) (e := 0) (by decide +kernel) rfl ?_
      refine hr_pi (b := 6) (e := 1) 108 rfl (by decide +kernel) ?_
      exact hw_vret (a0 := 0) (e := 0) (by decide +kernel) H
    · have H := H.2.2.2.2.2.2.1 hm
      refine hr_ala (a0 := 0) (e := 0) (n := 8) (w := 164) 109 rfl (by decide +kernel) hl20 hu20 hm ?_
      refine hw_ald (b := 1) (e := 0) (by decide +kernel) rfl (by decide) ?_
      refine hr_call (a0 := 14) (b := 66) (e := 2) (nl := 2) (As := [(2, 17)]) (R := []) 164 rfl (by decide +kernel) rfl rfl (Nat.le_of_ble_eq_true rfl) (Nat.le_of_ble_eq_true rfl) ?_
      refine hw_mono H ?_
      rintro r ψ33 y33 ⟨hyx, hr, H⟩
      subst hyx
      subst hr
      refine ⟨hnen, ?_⟩
      show hw sc (d + 1) 80 26 [(0, (2, 108)), (1, (2, 17))] [] ψ33 y33 Q
      refine hw_ald (b := 0) (e := 0) (by decide +kernel) rfl (by decide) ?_
      refine hw_dup (a0 := 0) (e := 0) (by decide +kernel) (by decide) ?_
      refine hr_gi (w := ψ33 108 1) (b := 6) (e := 1) 108 rfl (by decide +kernel) rfl ?_
      refine hw_k (c := 1) (b := 0) (e := 1) (by decide +kernel) ?_
      refine hw_bin (w := (ψ33 108 1) + 1) (a0 := 0) (b := 0) (e := 0) (by decide +kernel) rfl ?_
      refine hr_pi (b := 6) (e := 1) 108 rfl (by decide +kernel) ?_
      exact hw_vret (a0 := 0) (e := 0) (by decide +kernel) H
    · have H := H.2.2.2.2.2.2.2 hm
      refine hr_ala (a0 := 0) (e := 0) (n := 8) (w := 173) 109 rfl (by decide +kernel) hl20 hu20 hm ?_
      refine hw_ald (b := 1) (e := 0) (by decide +kernel) rfl (by decide) ?_
      refine hr_call (a0 := 14) (b := 66) (e := 2) (nl := 2) (As := [(2, 17)]) (R := []) 173 rfl (by decide +kernel) rfl rfl (Nat.le_of_ble_eq_true rfl) (Nat.le_of_ble_eq_true rfl) ?_
      refine hw_mono H ?_
      rintro r ψ35 y35 ⟨hyx, hr, H⟩
      subst hyx
      subst hr
      refine ⟨hnen, ?_⟩
      show hw sc (d + 1) 80 26 [(0, (2, 108)), (1, (2, 17))] [] ψ35 y35 Q
      refine hw_ald (b := 0) (e := 0) (by decide +kernel) rfl (by decide) ?_
      refine hw_dup (a0 := 0) (e := 0) (by decide +kernel) (by decide) ?_
      refine hr_gi (w := ψ35 108 1) (b := 6) (e := 1) 108 rfl (by decide +kernel) rfl ?_
      refine hw_k (c := 1) (b := 0) (e := 1) (by decide +kernel) ?_
      refine hw_bin (w := (ψ35 108 1) + 1) (a0 := 0) (b := 0) (e := 0) (by decide +kernel) rfl ?_
      refine hr_pi (b := 6) (e := 1) 108 rfl (by decide +kernel) ?_
      exact hw_vret (a0 := 0) (e := 0) (by decide +kernel) H
theorem sf_80_108_17 {sc : List Int} {d : Nat} {φ : hf_F} {x : Nat} {Q : Option jm_V → hf_F → Nat → Prop}  (hI : Inv φ)  (hQ : ∀ ψ : hf_F, Inv ψ → Fr [109, 111, 112, 113, 114, 115, 116, 117, 118, 120, 121, 122, 123, 124, 125, 126, 127, 129, 130, 131, 132, 133, 134, 135, 136, 138, 139, 140, 141, 142, 143, 144, 145, 147, 148, 149, 150, 151, 152, 153, 154, 156, 157, 158, 159, 160, 161, 162, 163, 165, 166, 167, 168, 169, 170, 171, 172, 174, 175, 176, 177, 178, 179, 180, 181, 109001, 111000, 111001, 111002, 111003, 111004, 111005, 120000, 120001, 120002, 120003, 120004, 120005, 129000, 129001, 129002, 129003, 129004, 129005, 138000, 138001, 138002, 138003, 138004, 138005, 147000, 147001, 147002, 147003, 147004, 147005, 156000, 156001, 156002, 156003, 156004, 156005, 165000, 165001, 165002, 165003, 165004, 165005, 174000, 174001, 174002, 174003, 174004, 174005] φ ψ → F_History_keep_108_17 φ = ψ → Q none ψ x) : hw sc (d + 1) 80 0 [(0, (2, 108)), (1, (2, 17))] [] φ x Q := by
  apply sf_80_108_17_v
  have e0 : F_History_keep_108_17 φ = _ := rfl
  have f1 := iv_at (a := 108) (k := 1) (lo := 0) (u := 8) hI (by decide +kernel)
  refine ⟨by unfold hi; omega, by unfold hi; omega, fun q1 => ?_, fun q1 => ?_⟩
  · skip
    have e1a := e0.trans (if_pos q1)
    refine ⟨by omega, by omega, iv_bf hI (by omega) (by omega), fun qm => ?_, fun qm => ?_, fun qm => ?_, fun qm => ?_, fun qm => ?_, fun qm => ?_, fun qm => ?_, fun qm => ?_⟩
    · skip
      have e2_0 := (e1a).trans (if_pos qm)
      refine sf_66_110_17 (φ := φ) hI  (fun ψ3 hI3 hF3 hE3 => ⟨rfl, rfl, ?_⟩)
      have hG3 : Fr [109, 111, 112, 113, 114, 115, 116, 117, 118, 120, 121, 122, 123, 124, 125, 126, 127, 129, 130, 131, 132, 133, 134, 135, 136, 138, 139, 140, 141, 142, 143, 144, 145, 147, 148, 149, 150, 151, 152, 153, 154, 156, 157, 158, 159, 160, 161, 162, 163, 165, 166, 167, 168, 169, 170, 171, 172, 174, 175, 176, 177, 178, 179, 180, 181, 109001, 111000, 111001, 111002, 111003, 111004, 111005, 120000, 120001, 120002, 120003, 120004, 120005, 129000, 129001, 129002, 129003, 129004, 129005, 138000, 138001, 138002, 138003, 138004, 138005, 147000, 147001, 147002, 147003, 147004, 147005, 156000, 156001, 156002, 156003, 156004, 156005, 165000, 165001, 165002, 165003, 165004, 165005, 174000, 174001, 174002, 174003, 174004, 174005] φ ψ3 := fr_tr (fr_rf) hF3 (by decide)
      have e3 := e2_0.trans (bnv_e hE3)
      have f2 := iv_at (a := 108) (k := 1) (lo := 0) (u := 8) hI3 (by decide +kernel)
      have f3 : ψ3 108 1 = φ 108 1 := (fr_fd hF3 108 1 (by decide))
      have i4 : Inv (hf_up ψ3 108 1 ((ψ3 108 1) + 1)) := iv_up (lo := 0) (u := 8) hI3 (by decide +kernel) (by omega) (by omega)
      have r4 : Fr [109, 111, 112, 113, 114, 115, 116, 117, 118, 120, 121, 122, 123, 124, 125, 126, 127, 129, 130, 131, 132, 133, 134, 135, 136, 138, 139, 140, 141, 142, 143, 144, 145, 147, 148, 149, 150, 151, 152, 153, 154, 156, 157, 158, 159, 160, 161, 162, 163, 165, 166, 167, 168, 169, 170, 171, 172, 174, 175, 176, 177, 178, 179, 180, 181, 109001, 111000, 111001, 111002, 111003, 111004, 111005, 120000, 120001, 120002, 120003, 120004, 120005, 129000, 129001, 129002, 129003, 129004, 129005, 138000, 138001, 138002, 138003, 138004, 138005, 147000, 147001, 147002, 147003, 147004, 147005, 156000, 156001, 156002, 156003, 156004, 156005, 165000, 165001, 165002, 165003, 165004, 165005, 174000, 174001, 174002, 174003, 174004, 174005] φ (hf_up ψ3 108 1 ((ψ3 108 1) + 1)) := fr_up hG3 (by decide)
      exact hQ (hf_up ψ3 108 1 ((ψ3 108 1) + 1)) i4 r4 e3
    · skip
      have e2_1 := ((e1a).trans (if_neg (by omega))).trans (if_pos qm)
      refine sf_66_119_17 (φ := φ) hI  (fun ψ5 hI5 hF5 hE5 => ⟨rfl, rfl, ?_⟩)
      have hG5 : Fr [109, 111, 112, 113, 114, 115, 116, 117, 118, 120, 121, 122, 123, 124, 125, 126, 127, 129, 130, 131, 132, 133, 134, 135, 136, 138, 139, 140, 141, 142, 143, 144, 145, 147, 148, 149, 150, 151, 152, 153, 154, 156, 157, 158, 159, 160, 161, 162, 163, 165, 166, 167, 168, 169, 170, 171, 172, 174, 175, 176, 177, 178, 179, 180, 181, 109001, 111000, 111001, 111002, 111003, 111004, 111005, 120000, 120001, 120002, 120003, 120004, 120005, 129000, 129001, 129002, 129003, 129004, 129005, 138000, 138001, 138002, 138003, 138004, 138005, 147000, 147001, 147002, 147003, 147004, 147005, 156000, 156001, 156002, 156003, 156004, 156005, 165000, 165001, 165002, 165003, 165004, 165005, 174000, 174001, 174002, 174003, 174004, 174005] φ ψ5 := fr_tr (fr_rf) hF5 (by decide)
      have e5 := e2_1.trans (bnv_e hE5)
      have f5 := iv_at (a := 108) (k := 1) (lo := 0) (u := 8) hI5 (by decide +kernel)
      have f6 : ψ5 108 1 = φ 108 1 := (fr_fd hF5 108 1 (by decide))
      have i7 : Inv (hf_up ψ5 108 1 ((ψ5 108 1) + 1)) := iv_up (lo := 0) (u := 8) hI5 (by decide +kernel) (by omega) (by omega)
      have r7 : Fr [109, 111, 112, 113, 114, 115, 116, 117, 118, 120, 121, 122, 123, 124, 125, 126, 127, 129, 130, 131, 132, 133, 134, 135, 136, 138, 139, 140, 141, 142, 143, 144, 145, 147, 148, 149, 150, 151, 152, 153, 154, 156, 157, 158, 159, 160, 161, 162, 163, 165, 166, 167, 168, 169, 170, 171, 172, 174, 175, 176, 177, 178, 179, 180, 181, 109001, 111000, 111001, 111002, 111003, 111004, 111005, 120000, 120001, 120002, 120003, 120004, 120005, 129000, 129001, 129002, 129003, 129004, 129005, 138000, 138001, 138002, 138003, 138004, 138005, 147000, 147001, 147002, 147003, 147004, 147005, 156000, 156001, 156002, 156003, 156004, 156005, 165000, 165001, 165002, 165003, 165004, 165005, 174000, 174001, 174002, 174003, 174004, 174005] φ (hf_up ψ5 108 1 ((ψ5 108 1) + 1)) := fr_up hG5 (by decide)
      exact hQ (hf_up ψ5 108 1 ((ψ5 108 1) + 1)) i7 r7 e5
    · skip
      have e2_2 := (((e1a).trans (if_neg (by omega))).trans (if_neg (by omega))).trans (if_pos qm)
      refine sf_66_128_17 (φ := φ) hI  (fun ψ7 hI7 hF7 hE7 => ⟨rfl, rfl, ?_⟩)
      have hG7 : Fr [109, 111, 112, 113, 114, 115, 116, 117, 118, 120, 121, 122, 123, 124, 125, 126, 127, 129, 130, 131, 132, 133, 134, 135, 136, 138, 139, 140, 141, 142, 143, 144, 145, 147, 148, 149, 150, 151, 152, 153, 154, 156, 157, 158, 159, 160, 161, 162, 163, 165, 166, 167, 168, 169, 170, 171, 172, 174, 175, 176, 177, 178, 179, 180, 181, 109001, 111000, 111001, 111002, 111003, 111004, 111005, 120000, 120001, 120002, 120003, 120004, 120005, 129000, 129001, 129002, 129003, 129004, 129005, 138000, 138001, 138002, 138003, 138004, 138005, 147000, 147001, 147002, 147003, 147004, 147005, 156000, 156001, 156002, 156003, 156004, 156005, 165000, 165001, 165002, 165003, 165004, 165005, 174000, 174001, 174002, 174003, 174004, 174005] φ ψ7 := fr_tr (fr_rf) hF7 (by decide)
      have e7 := e2_2.trans (bnv_e hE7)
      have f8 := iv_at (a := 108) (k := 1) (lo := 0) (u := 8) hI7 (by decide +kernel)
      have f9 : ψ7 108 1 = φ 108 1 := (fr_fd hF7 108 1 (by decide))
      have i10 : Inv (hf_up ψ7 108 1 ((ψ7 108 1) + 1)) := iv_up (lo := 0) (u := 8) hI7 (by decide +kernel) (by omega) (by omega)
      have r10 : Fr [109, 111, 112, 113, 114, 115, 116, 117, 118, 120, 121, 122, 123, 124, 125, 126, 127, 129, 130, 131, 132, 133, 134, 135, 136, 138, 139, 140, 141, 142, 143, 144, 145, 147, 148, 149, 150, 151, 152, 153, 154, 156, 157, 158, 159, 160, 161, 162, 163, 165, 166, 167, 168, 169, 170, 171, 172, 174, 175, 176, 177, 178, 179, 180, 181, 109001, 111000, 111001, 111002, 111003, 111004, 111005, 120000, 120001, 120002, 120003, 120004, 120005, 129000, 129001, 129002, 129003, 129004, 129005, 138000, 138001, 138002, 138003, 138004, 138005, 147000, 147001, 147002, 147003, 147004, 147005, 156000, 156001, 156002, 156003, 156004, 156005, 165000, 165001, 165002, 165003, 165004, 165005, 174000, 174001, 174002, 174003, 174004, 174005] φ (hf_up ψ7 108 1 ((ψ7 108 1) + 1)) := fr_up hG7 (by decide)
      exact hQ (hf_up ψ7 108 1 ((ψ7 108 1) + 1)) i10 r10 e7
    · skip
      have e2_3 := ((((e1a).trans (if_neg (by omega))).trans (if_neg (by omega))).trans (if_neg (by omega))).trans (if_pos qm)
      refine sf_66_137_17 (φ := φ) hI  (fun ψ9 hI9 hF9 hE9 => ⟨rfl, rfl, ?_⟩)
      have hG9 : Fr [109, 111, 112, 113, 114, 115, 116, 117, 118, 120, 121, 122, 123, 124, 125, 126, 127, 129, 130, 131, 132, 133, 134, 135, 136, 138, 139, 140, 141, 142, 143, 144, 145, 147, 148, 149, 150, 151, 152, 153, 154, 156, 157, 158, 159, 160, 161, 162, 163, 165, 166, 167, 168, 169, 170, 171, 172, 174, 175, 176, 177, 178, 179, 180, 181, 109001, 111000, 111001, 111002, 111003, 111004, 111005, 120000, 120001, 120002, 120003, 120004, 120005, 129000, 129001, 129002, 129003, 129004, 129005, 138000, 138001, 138002, 138003, 138004, 138005, 147000, 147001, 147002, 147003, 147004, 147005, 156000, 156001, 156002, 156003, 156004, 156005, 165000, 165001, 165002, 165003, 165004, 165005, 174000, 174001, 174002, 174003, 174004, 174005] φ ψ9 := fr_tr (fr_rf) hF9 (by decide)
      have e9 := e2_3.trans (bnv_e hE9)
      have f11 := iv_at (a := 108) (k := 1) (lo := 0) (u := 8) hI9 (by decide +kernel)
      have f12 : ψ9 108 1 = φ 108 1 := (fr_fd hF9 108 1 (by decide))
      have i13 : Inv (hf_up ψ9 108 1 ((ψ9 108 1) + 1)) := iv_up (lo := 0) (u := 8) hI9 (by decide +kernel) (by omega) (by omega)
      have r13 : Fr [109, 111, 112, 113, 114, 115, 116, 117, 118, 120, 121, 122, 123, 124, 125, 126, 127, 129, 130, 131, 132, 133, 134, 135, 136, 138, 139, 140, 141, 142, 143, 144, 145, 147, 148, 149, 150, 151, 152, 153, 154, 156, 157, 158, 159, 160, 161, 162, 163, 165, 166, 167, 168, 169, 170, 171, 172, 174, 175, 176, 177, 178, 179, 180, 181, 109001, 111000, 111001, 111002, 111003, 111004, 111005, 120000, 120001, 120002, 120003, 120004, 120005, 129000, 129001, 129002, 129003, 129004, 129005, 138000, 138001, 138002, 138003, 138004, 138005, 147000, 147001, 147002, 147003, 147004, 147005, 156000, 156001, 156002, 156003, 156004, 156005, 165000, 165001, 165002, 165003, 165004, 165005, 174000, 174001, 174002, 174003, 174004, 174005] φ (hf_up ψ9 108 1 ((ψ9 108 1) + 1)) := fr_up hG9 (by decide)
      exact hQ (hf_up ψ9 108 1 ((ψ9 108 1) + 1)) i13 r13 e9
    · skip
      have e2_4 := (((((e1a).trans (if_neg (by omega))).trans (if_neg (by omega))).trans (if_neg (by omega))).trans (if_neg (by omega))).trans (if_pos qm)
      refine sf_66_146_17 (φ := φ) hI  (fun ψ11 hI11 hF11 hE11 => ⟨rfl, rfl, ?_⟩)
      have hG11 : Fr [109, 111, 112, 113, 114, 115, 116, 117, 118, 120, 121, 122, 123, 124, 125, 126, 127, 129, 130, 131, 132, 133, 134, 135, 136, 138, 139, 140, 141, 142, 143, 144, 145, 147, 148, 149, 150, 151, 152, 153, 154, 156, 157, 158, 159, 160, 161, 162, 163, 165, 166, 167, 168, 169, 170, 171, 172, 174, 175, 176, 177, 178, 179, 180, 181, 109001, 111000, 111001, 111002, 111003, 111004, 111005, 120000, 120001, 120002, 120003, 120004, 120005, 129000, 129001, 129002, 129003, 129004, 129005, 138000, 138001, 138002, 138003, 138004, 138005, 147000, 147001, 147002, 147003, 147004, 147005, 156000, 156001, 156002, 156003, 156004, 156005, 165000, 165001, 165002, 165003, 165004, 165005, 174000, 174001, 174002, 174003, 174004, 174005] φ ψ11 := fr_tr (fr_rf) hF11 (by decide)
      have e11 := e2_4.trans (bnv_e hE11)
      have f14 := iv_at (a := 108) (k := 1) (lo := 0) (u := 8) hI11 (by decide +kernel)
      have f15 : ψ11 108 1 = φ 108 1 := (fr_fd hF11 108 1 (by decide))
      have i16 : Inv (hf_up ψ11 108 1 ((ψ11 108 1) + 1)) := iv_up (lo := 0) (u := 8) hI11 (by decide +kernel) (by omega) (by omega)
      have r16 : Fr [109, 111, 112, 113, 114, 115, 116, 117, 118, 120, 121, 122, 123, 124, 125, 126, 127, 129, 130, 131, 132, 133, 134, 135, 136, 138, 139, 140, 141, 142, 143, 144, 145, 147, 148, 149, 150, 151, 152, 153, 154, 156, 157, 158, 159, 160, 161, 162, 163, 165, 166, 167, 168, 169, 170, 171, 172, 174, 175, 176, 177, 178, 179, 180, 181, 109001, 111000, 111001, 111002, 111003, 111004, 111005, 120000, 120001, 120002, 120003, 120004, 120005, 129000, 129001, 129002, 129003, 129004, 129005, 138000, 138001, 138002, 138003, 138004, 138005, 147000, 147001, 147002, 147003, 147004, 147005, 156000, 156001, 156002, 156003, 156004, 156005, 165000, 165001, 165002, 165003, 165004, 165005, 174000, 174001, 174002, 174003, 174004, 174005] φ (hf_up ψ11 108 1 ((ψ11 108 1) + 1)) := fr_up hG11 (by decide)
      exact hQ (hf_up ψ11 108 1 ((ψ11 108 1) + 1)) i16 r16 e11
    · skip
      have e2_5 := ((((((e1a).trans (if_neg (by omega))).trans (if_neg (by omega))).trans (if_neg (by omega))).trans (if_neg (by omega))).trans (if_neg (by omega))).trans (if_pos qm)
      refine sf_66_155_17 (φ := φ) hI  (fun ψ13 hI13 hF13 hE13 => ⟨rfl, rfl, ?_⟩)
      have hG13 : Fr [109, 111, 112, 113, 114, 115, 116, 117, 118, 120, 121, 122, 123, 124, 125, 126, 127, 129, 130, 131, 132, 133, 134, 135, 136, 138, 139, 140, 141, 142, 143, 144, 145, 147, 148, 149, 150, 151, 152, 153, 154, 156, 157, 158, 159, 160, 161, 162, 163, 165, 166, 167, 168, 169, 170, 171, 172, 174, 175, 176, 177, 178, 179, 180, 181, 109001, 111000, 111001, 111002, 111003, 111004, 111005, 120000, 120001, 120002, 120003, 120004, 120005, 129000, 129001, 129002, 129003, 129004, 129005, 138000, 138001, 138002, 138003, 138004, 138005, 147000, 147001, 147002, 147003, 147004, 147005, 156000, 156001, 156002, 156003, 156004, 156005, 165000, 165001, 165002, 165003, 165004, 165005, 174000, 174001, 174002, 174003, 174004, 174005] φ ψ13 := fr_tr (fr_rf) hF13 (by decide)
      have e13 := e2_5.trans (bnv_e hE13)
      have f17 := iv_at (a := 108) (k := 1) (lo := 0) (u := 8) hI13 (by decide +kernel)
      have f18 : ψ13 108 1 = φ 108 1 := (fr_fd hF13 108 1 (by decide))
      have i19 : Inv (hf_up ψ13 108 1 ((ψ13 108 1) + 1)) := iv_up (lo := 0) (u := 8) hI13 (by decide +kernel) (by omega) (by omega)
      have r19 : Fr [109, 111, 112, 113, 114, 115, 116, 117, 118, 120, 121, 122, 123, 124, 125, 126, 127, 129, 130, 131, 132, 133, 134, 135, 136, 138, 139, 140, 141, 142, 143, 144, 145, 147, 148, 149, 150, 151, 152, 153, 154, 156, 157, 158, 159, 160, 161, 162, 163, 165, 166, 167, 168, 169, 170, 171, 172, 174, 175, 176, 177, 178, 179, 180, 181, 109001, 111000, 111001, 111002, 111003, 111004, 111005, 120000, 120001, 120002, 120003, 120004, 120005, 129000, 129001, 129002, 129003, 129004, 129005, 138000, 138001, 138002, 138003, 138004, 138005, 147000, 147001, 147002, 147003, 147004, 147005, 156000, 156001, 156002, 156003, 156004, 156005, 165000, 165001, 165002, 165003, 165004, 165005, 174000, 174001, 174002, 174003, 174004, 174005] φ (hf_up ψ13 108 1 ((ψ13 108 1) + 1)) := fr_up hG13 (by decide)
      exact hQ (hf_up ψ13 108 1 ((ψ13 108 1) + 1)) i19 r19 e13
    · skip
      have e2_6 := (((((((e1a).trans (if_neg (by omega))).trans (if_neg (by omega))).trans (if_neg (by omega))).trans (if_neg (by omega))).trans (if_neg (by omega))).trans (if_neg (by omega))).trans (if_pos qm)
      refine sf_66_164_17 (φ := φ) hI  (fun ψ15 hI15 hF15 hE15 => ⟨rfl, rfl, ?_⟩)
      have hG15 : Fr [109, 111, 112, 113, 114, 115, 116, 117, 118, 120, 121, 122, 123, 124, 125, 126, 127, 129, 130, 131, 132, 133, 134, 135, 136, 138, 139, 140, 141, 142, 143, 144, 145, 147, 148, 149, 150, 151, 152, 153, 154, 156, 157, 158, 159, 160, 161, 162, 163, 165, 166, 167, 168, 169, 170, 171, 172, 174, 175, 176, 177, 178, 179, 180, 181, 109001, 111000, 111001, 111002, 111003, 111004, 111005, 120000, 120001, 120002, 120003, 120004, 120005, 129000, 129001, 129002, 129003, 129004, 129005, 138000, 138001, 138002, 138003, 138004, 138005, 147000, 147001, 147002, 147003, 147004, 147005, 156000, 156001, 156002, 156003, 156004, 156005, 165000, 165001, 165002, 165003, 165004, 165005, 174000, 174001, 174002, 174003, 174004, 174005] φ ψ15 := fr_tr (fr_rf) hF15 (by decide)
      have e15 := e2_6.trans (bnv_e hE15)
      have f20 := iv_at (a := 108) (k := 1) (lo := 0) (u := 8) hI15 (by decide +kernel)
      have f21 : ψ15 108 1 = φ 108 1 := (fr_fd hF15 108 1 (by decide))
      have i22 : Inv (hf_up ψ15 108 1 ((ψ15 108 1) + 1)) := iv_up (lo := 0) (u := 8) hI15 (by decide +kernel) (by omega) (by omega)
      have r22 : Fr [109, 111, 112, 113, 114, 115, 116, 117, 118, 120, 121, 122, 123, 124, 125, 126, 127, 129, 130, 131, 132, 133, 134, 135, 136, 138, 139, 140, 141, 142, 143, 144, 145, 147, 148, 149, 150, 151, 152, 153, 154, 156, 157, 158, 159, 160, 161, 162, 163, 165, 166, 167, 168, 169, 170, 171, 172, 174, 175, 176, 177, 178, 179, 180, 181, 109001, 111000, 111001, 111002, 111003, 111004, 111005, 120000, 120001, 120002, 120003, 120004, 120005, 129000, 129001, 129002, 129003, 129004, 129005, 138000, 138001, 138002, 138003, 138004, 138005, 147000, 147001, 147002, 147003, 147004, 147005, 156000, 156001, 156002, 156003, 156004, 156005, 165000, 165001, 165002, 165003, 165004, 165005, 174000, 174001, 174002, 174003, 174004, 174005] φ (hf_up ψ15 108 1 ((ψ15 108 1) + 1)) := fr_up hG15 (by decide)
      exact hQ (hf_up ψ15 108 1 ((ψ15 108 1) + 1)) i22 r22 e15
    · skip
      have e2_7 := (((((((e1a).trans (if_neg (by omega))).trans (if_neg (by omega))).trans (if_neg (by omega))).trans (if_neg (by omega))).trans (if_neg (by omega))).trans (if_neg (by omega))).trans (if_neg (by omega))
      refine sf_66_173_17 (φ := φ) hI  (fun ψ17 hI17 hF17 hE17 => ⟨rfl, rfl, ?_⟩)
      have hG17 : Fr [109, 111, 112, 113, 114, 115, 116, 117, 118, 120, 121, 122, 123, 124, 125, 126, 127, 129, 130, 131, 132, 133, 134, 135, 136, 138, 139, 140, 141, 142, 143, 144, 145, 147, 148, 149, 150, 151, 152, 153, 154, 156, 157, 158, 159, 160, 161, 162, 163, 165, 166, 167, 168, 169, 170, 171, 172, 174, 175, 176, 177, 178, 179, 180, 181, 109001, 111000, 111001, 111002, 111003, 111004, 111005, 120000, 120001, 120002, 120003, 120004, 120005, 129000, 129001, 129002, 129003, 129004, 129005, 138000, 138001, 138002, 138003, 138004, 138005, 147000, 147001, 147002, 147003, 147004, 147005, 156000, 156001, 156002, 156003, 156004, 156005, 165000, 165001, 165002, 165003, 165004, 165005, 174000, 174001, 174002, 174003, 174004, 174005] φ ψ17 := fr_tr (fr_rf) hF17 (by decide)
      have e17 := e2_7.trans (bnv_e hE17)
      have f23 := iv_at (a := 108) (k := 1) (lo := 0) (u := 8) hI17 (by decide +kernel)
      have f24 : ψ17 108 1 = φ 108 1 := (fr_fd hF17 108 1 (by decide))
      have i25 : Inv (hf_up ψ17 108 1 ((ψ17 108 1) + 1)) := iv_up (lo := 0) (u := 8) hI17 (by decide +kernel) (by omega) (by omega)
      have r25 : Fr [109, 111, 112, 113, 114, 115, 116, 117, 118, 120, 121, 122, 123, 124, 125, 126, 127, 129, 130, 131, 132, 133, 134, 135, 136, 138, 139, 140, 141, 142, 143, 144, 145, 147, 148, 149, 150, 151, 152, 153, 154, 156, 157, 158, 159, 160, 161, 162, 163, 165, 166, 167, 168, 169, 170, 171, 172, 174, 175, 176, 177, 178, 179, 180, 181, 109001, 111000, 111001, 111002, 111003, 111004, 111005, 120000, 120001, 120002, 120003, 120004, 120005, 129000, 129001, 129002, 129003, 129004, 129005, 138000, 138001, 138002, 138003, 138004, 138005, 147000, 147001, 147002, 147003, 147004, 147005, 156000, 156001, 156002, 156003, 156004, 156005, 165000, 165001, 165002, 165003, 165004, 165005, 174000, 174001, 174002, 174003, 174004, 174005] φ (hf_up ψ17 108 1 ((ψ17 108 1) + 1)) := fr_up hG17 (by decide)
      exact hQ (hf_up ψ17 108 1 ((ψ17 108 1) + 1)) i25 r25 e17
  · skip
    have e1b := e0.trans (if_neg q1)
    refine sf_81_108 (φ := φ) hI  (fun ψ19 hI19 hF19 hV19 hE19 => ⟨rfl, rfl, ?_⟩)
    have hG19 : Fr [109, 111, 112, 113, 114, 115, 116, 117, 118, 120, 121, 122, 123, 124, 125, 126, 127, 129, 130, 131, 132, 133, 134, 135, 136, 138, 139, 140, 141, 142, 143, 144, 145, 147, 148, 149, 150, 151, 152, 153, 154, 156, 157, 158, 159, 160, 161, 162, 163, 165, 166, 167, 168, 169, 170, 171, 172, 174, 175, 176, 177, 178, 179, 180, 181, 109001, 111000, 111001, 111002, 111003, 111004, 111005, 120000, 120001, 120002, 120003, 120004, 120005, 129000, 129001, 129002, 129003, 129004, 129005, 138000, 138001, 138002, 138003, 138004, 138005, 147000, 147001, 147002, 147003, 147004, 147005, 156000, 156001, 156002, 156003, 156004, 156005, 165000, 165001, 165002, 165003, 165004, 165005, 174000, 174001, 174002, 174003, 174004, 174005] φ ψ19 := fr_tr (fr_rf) hF19 (by decide)
    have e19 := e1b.trans (bnv_e hE19)
    have f26 := iv_at (a := 108) (k := 1) (lo := 0) (u := 8) hI19 (by decide +kernel)
    refine ⟨by omega, by omega, iv_bf hI19 (by omega) (by omega), fun qm => ?_, fun qm => ?_, fun qm => ?_, fun qm => ?_, fun qm => ?_, fun qm => ?_, fun qm => ?_, fun qm => ?_⟩
    · skip
      have e20_0 := (e19).trans (if_pos qm)
      refine sf_66_110_17 (φ := ψ19) hI19  (fun ψ21 hI21 hF21 hE21 => ⟨rfl, rfl, ?_⟩)
      have hG21 : Fr [109, 111, 112, 113, 114, 115, 116, 117, 118, 120, 121, 122, 123, 124, 125, 126, 127, 129, 130, 131, 132, 133, 134, 135, 136, 138, 139, 140, 141, 142, 143, 144, 145, 147, 148, 149, 150, 151, 152, 153, 154, 156, 157, 158, 159, 160, 161, 162, 163, 165, 166, 167, 168, 169, 170, 171, 172, 174, 175, 176, 177, 178, 179, 180, 181, 109001, 111000, 111001, 111002, 111003, 111004, 111005, 120000, 120001, 120002, 120003, 120004, 120005, 129000, 129001, 129002, 129003, 129004, 129005, 138000, 138001, 138002, 138003, 138004, 138005, 147000, 147001, 147002, 147003, 147004, 147005, 156000, 156001, 156002, 156003, 156004, 156005, 165000, 165001, 165002, 165003, 165004, 165005, 174000, 174001, 174002, 174003, 174004, 174005] φ ψ21 := fr_tr hG19 hF21 (by decide)
      have e21 := e20_0.trans (bnv_e hE21)
      have f27 := iv_at (a := 108) (k := 1) (lo := 0) (u := 8) hI21 (by decide +kernel)
      have f28 : ψ21 108 1 = ψ19 108 1 := (fr_fd hF21 108 1 (by decide))
      have i29 : Inv (hf_up ψ21 108 1 ((ψ21 108 1) + 1)) := iv_up (lo := 0) (u := 8) hI21 (by decide +kernel) (by omega) (by omega)
      have r29 : Fr [109, 111, 112, 113, 114, 115, 116, 117, 118, 120, 121, 122, 123, 124, 125, 126, 127, 129, 130, 131, 132, 133, 134, 135, 136, 138, 139, 140, 141, 142, 143, 144, 145, 147, 148, 149, 150, 151, 152, 153, 154, 156, 157, 158, 159, 160, 161, 162, 163, 165, 166, 167, 168, 169, 170, 171, 172, 174, 175, 176, 177, 178, 179, 180, 181, 109001, 111000, 111001, 111002, 111003, 111004, 111005, 120000, 120001, 120002, 120003, 120004, 120005, 129000, 129001, 129002, 129003, 129004, 129005, 138000, 138001, 138002, 138003, 138004, 138005, 147000, 147001, 147002, 147003, 147004, 147005, 156000, 156001, 156002, 156003, 156004, 156005, 165000, 165001, 165002, 165003, 165004, 165005, 174000, 174001, 174002, 174003, 174004, 174005] φ (hf_up ψ21 108 1 ((ψ21 108 1) + 1)) := fr_up hG21 (by decide)
      exact hQ (hf_up ψ21 108 1 ((ψ21 108 1) + 1)) i29 r29 e21
    · skip
      have e20_1 := ((e19).trans (if_neg (by omega))).trans (if_pos qm)
      refine sf_66_119_17 (φ := ψ19) hI19  (fun ψ23 hI23 hF23 hE23 => ⟨rfl, rfl, ?_⟩)
      have hG23 : Fr [109, 111, 112, 113, 114, 115, 116, 117, 118, 120, 121, 122, 123, 124, 125, 126, 127, 129, 130, 131, 132, 133, 134, 135, 136, 138, 139, 140, 141, 142, 143, 144, 145, 147, 148, 149, 150, 151, 152, 153, 154, 156, 157, 158, 159, 160, 161, 162, 163, 165, 166, 167, 168, 169, 170, 171, 172, 174, 175, 176, 177, 178, 179, 180, 181, 109001, 111000, 111001, 111002, 111003, 111004, 111005, 120000, 120001, 120002, 120003, 120004, 120005, 129000, 129001, 129002, 129003, 129004, 129005, 138000, 138001, 138002, 138003, 138004, 138005, 147000, 147001, 147002, 147003, 147004, 147005, 156000, 156001, 156002, 156003, 156004, 156005, 165000, 165001, 165002, 165003, 165004, 165005, 174000, 174001, 174002, 174003, 174004, 174005] φ ψ23 := fr_tr hG19 hF23 (by decide)
      have e23 := e20_1.trans (bnv_e hE23)
      have f30 := iv_at (a := 108) (k := 1) (lo := 0) (u := 8) hI23 (by decide +kernel)
      have f31 : ψ23 108 1 = ψ19 108 1 := (fr_fd hF23 108 1 (by decide))
      have i32 : Inv (hf_up ψ23 108 1 ((ψ23 108 1) + 1)) := iv_up (lo := 0) (u := 8) hI23 (by decide +kernel) (by omega) (by omega)
      have r32 : Fr [109, 111, 112, 113, 114, 115, 116, 117, 118, 120, 121, 122, 123, 124, 125, 126, 127, 129, 130, 131, 132, 133, 134, 135, 136, 138, 139, 140, 141, 142, 143, 144, 145, 147, 148, 149, 150, 151, 152, 153, 154, 156, 157, 158, 159, 160, 161, 162, 163, 165, 166, 167, 168, 169, 170, 171, 172, 174, 175, 176, 177, 178, 179, 180, 181, 109001, 111000, 111001, 111002, 111003, 111004, 111005, 120000, 120001, 120002, 120003, 120004, 120005, 129000, 129001, 129002, 129003, 129004, 129005, 138000, 138001, 138002, 138003, 138004, 138005, 147000, 147001, 147002, 147003, 147004, 147005, 156000, 156001, 156002, 156003, 156004, 156005, 165000, 165001, 165002, 165003, 165004, 165005, 174000, 174001, 174002, 174003, 174004, 174005] φ (hf_up ψ23 108 1 ((ψ23 108 1) + 1)) := fr_up hG23 (by decide)
      exact hQ (hf_up ψ23 108 1 ((ψ23 108 1) + 1)) i32 r32 e23
    · skip
      have e20_2 := (((e19).trans (if_neg (by omega))).trans (if_neg (by omega))).trans (if_pos qm)
      refine sf_66_128_17 (φ := ψ19) hI19  (fun ψ25 hI25 hF25 hE25 => ⟨rfl, rfl, ?_⟩)
      have hG25 : Fr [109, 111, 112, 113, 114, 115, 116, 117, 118, 120, 121, 122, 123, 124, 125, 126, 127, 129, 130, 131, 132, 133, 134, 135, 136, 138, 139, 140, 141, 142, 143, 144, 145, 147, 148, 149, 150, 151, 152, 153, 154, 156, 157, 158, 159, 160, 161, 162, 163, 165, 166, 167, 168, 169, 170, 171, 172, 174, 175, 176, 177, 178, 179, 180, 181, 109001, 111000, 111001, 111002, 111003, 111004, 111005, 120000, 120001, 120002, 120003, 120004, 120005, 129000, 129001, 129002, 129003, 129004, 129005, 138000, 138001, 138002, 138003, 138004, 138005, 147000, 147001, 147002, 147003, 147004, 147005, 156000, 156001, 156002, 156003, 156004, 156005, 165000, 165001, 165002, 165003, 165004, 165005, 174000, 174001, 174002, 174003, 174004, 174005] φ ψ25 := fr_tr hG19 hF25 (by decide)
      have e25 := e20_2.trans (bnv_e hE25)
      have f33 := iv_at (a := 108) (k := 1) (lo := 0) (u := 8) hI25 (by decide +kernel)
      have f34 : ψ25 108 1 = ψ19 108 1 := (fr_fd hF25 108 1 (by decide))
      have i35 : Inv (hf_up ψ25 108 1 ((ψ25 108 1) + 1)) := iv_up (lo := 0) (u := 8) hI25 (by decide +kernel) (by omega) (by omega)
      have r35 : Fr [109, 111, 112, 113, 114, 115, 116, 117, 118, 120, 121, 122, 123, 124, 125, 126, 127, 129, 130, 131, 132, 133, 134, 135, 136, 138, 139, 140, 141, 142, 143, 144, 145, 147, 148, 149, 150, 151, 152, 153, 154, 156, 157, 158, 159, 160, 161, 162, 163, 165, 166, 167, 168, 169, 170, 171, 172, 174, 175, 176, 177, 178, 179, 180, 181, 109001, 111000, 111001, 111002, 111003, 111004, 111005, 120000, 120001, 120002, 120003, 120004, 120005, 129000, 129001, 129002, 129003, 129004, 129005, 138000, 138001, 138002, 138003, 138004, 138005, 147000, 147001, 147002, 147003, 147004, 147005, 156000, 156001, 156002, 156003, 156004, 156005, 165000, 165001, 165002, 165003, 165004, 165005, 174000, 174001, 174002, 174003, 174004, 174005] φ (hf_up ψ25 108 1 ((ψ25 108 1) + 1)) := fr_up hG25 (by decide)
      exact hQ (hf_up ψ25 108 1 ((ψ25 108 1) + 1)) i35 r35 e25
    · skip
      have e20_3 := ((((e19).trans (if_neg (by omega))).trans (if_neg (by omega))).trans (if_neg (by omega))).trans (if_pos qm)
      refine sf_66_137_17 (φ := ψ19) hI19  (fun ψ27 hI27 hF27 hE27 => ⟨rfl, rfl, ?_⟩)
      have hG27 : Fr [109, 111, 112, 113, 114, 115, 116, 117, 118, 120, 121, 122, 123, 124, 125, 126, 127, 129, 130, 131, 132, 133, 134, 135, 136, 138, 139, 140, 141, 142, 143, 144, 145, 147, 148, 149, 150, 151, 152, 153, 154, 156, 157, 158, 159, 160, 161, 162, 163, 165, 166, 167, 168, 169, 170, 171, 172, 174, 175, 176, 177, 178, 179, 180, 181, 109001, 111000, 111001, 111002, 111003, 111004, 111005, 120000, 120001, 120002, 120003, 120004, 120005, 129000, 129001, 129002, 129003, 129004, 129005, 138000, 138001, 138002, 138003, 138004, 138005, 147000, 147001, 147002, 147003, 147004, 147005, 156000, 156001, 156002, 156003, 156004, 156005, 165000, 165001, 165002, 165003, 165004, 165005, 174000, 174001, 174002, 174003, 174004, 174005] φ ψ27 := fr_tr hG19 hF27 (by decide)
      have e27 := e20_3.trans (bnv_e hE27)
      have f36 := iv_at (a := 108) (k := 1) (lo := 0) (u := 8) hI27 (by decide +kernel)
      have f37 : ψ27 108 1 = ψ19 108 1 := (fr_fd hF27 108 1 (by decide))
      have i38 : Inv (hf_up ψ27 108 1 ((ψ27 108 1) + 1)) := iv_up (lo := 0) (u := 8) hI27 (by decide +kernel) (by omega) (by omega)
      have r38 : Fr [109, 111, 112, 113, 114, 115, 116, 117, 118, 120, 121, 122, 123, 124, 125, 126, 127, 129, 130, 131, 132, 133, 134, 135, 136, 138, 139, 140, 141, 142, 143, 144, 145, 147, 148, 149, 150, 151, 152, 153, 154, 156, 157, 158, 159, 160, 161, 162, 163, 165, 166, 167, 168, 169, 170, 171, 172, 174, 175, 176, 177, 178, 179, 180, 181, 109001, 111000, 111001, 111002, 111003, 111004, 111005, 120000, 120001, 120002, 120003, 120004, 120005, 129000, 129001, 129002, 129003, 129004, 129005, 138000, 138001, 138002, 138003, 138004, 138005, 147000, 147001, 147002, 147003, 147004, 147005, 156000, 156001, 156002, 156003, 156004, 156005, 165000, 165001, 165002, 165003, 165004, 165005, 174000, 174001, 174002, 174003, 174004, 174005] φ (hf_up ψ27 108 1 ((ψ27 108 1) + 1)) := fr_up hG27 (by decide)
      exact hQ (hf_up ψ27 108 1 ((ψ27 108 1) + 1)) i38 r38 e27
    · skip
      have e20_4 := (((((e19).trans (if_neg (by omega))).trans (if_neg (by omega))).trans (if_neg (by omega))).trans (if_neg (by omega))).trans (if_pos qm)
      refine sf_66_146_17 (φ := ψ19) hI19  (fun ψ29 hI29 hF29 hE29 => ⟨rfl, rfl, ?_⟩)
      have hG29 : Fr [109, 111, 112, 113, 114, 115, 116, 117, 118, 120, 121, 122, 123, 124, 125, 126, 127, 129, 130, 131, 132, 133, 134, 135, 136, 138, 139, 140, 141, 142, 143, 144, 145, 147, 148, 149, 150, 151, 152, 153, 154, 156, 157, 158, 159, 160, 161, 162, 163, 165, 166, 167, 168, 169, 170, 171, 172, 174, 175, 176, 177, 178, 179, 180, 181, 109001, 111000, 111001, 111002, 111003, 111004, 111005, 120000, 120001, 120002, 120003, 120004, 120005, 129000, 129001, 129002, 129003, 129004, 129005, 138000, 138001, 138002, 138003, 138004, 138005, 147000, 147001, 147002, 147003, 147004, 147005, 156000, 156001, 156002, 156003, 156004, 156005, 165000, 165001, 165002, 165003, 165004, 165005, 174000, 174001, 174002, 174003, 174004, 174005] φ ψ29 := fr_tr hG19 hF29 (by decide)
      have e29 := e20_4.trans (bnv_e hE29)
      have f39 := iv_at (a := 108) (k := 1) (lo := 0) (u := 8) hI29 (by decide +kernel)
      have f40 : ψ29 108 1 = ψ19 108 1 := (fr_fd hF29 108 1 (by decide))
      have i41 : Inv (hf_up ψ29 108 1 ((ψ29 108 1) + 1)) := iv_up (lo := 0) (u := 8) hI29 (by decide +kernel) (by omega) (by omega)
      have r41 : Fr [109, 111, 112, 113, 114, 115, 116, 117, 118, 120, 121, 122, 123, 124, 125, 126, 127, 129, 130, 131, 132, 133, 134, 135, 136, 138, 139, 140, 141, 142, 143, 144, 145, 147, 148, 149, 150, 151, 152, 153, 154, 156, 157, 158, 159, 160, 161, 162, 163, 165, 166, 167, 168, 169, 170, 171, 172, 174, 175, 176, 177, 178, 179, 180, 181, 109001, 111000, 111001, 111002, 111003, 111004, 111005, 120000, 120001, 120002, 120003, 120004, 120005, 129000, 129001, 129002, 129003, 129004, 129005, 138000, 138001, 138002, 138003, 138004, 138005, 147000, 147001, 147002, 147003, 147004, 147005, 156000, 156001, 156002, 156003, 156004, 156005, 165000, 165001, 165002, 165003, 165004, 165005, 174000, 174001, 174002, 174003, 174004, 174005] φ (hf_up ψ29 108 1 ((ψ29 108 1) + 1)) := fr_up hG29 (by decide)
      exact hQ (hf_up ψ29 108 1 ((ψ29 108 1) + 1)) i41 r41 e29
    · skip
      have e20_5 := ((((((e19).trans (if_neg (by omega))).trans (if_neg (by omega))).trans (if_neg (by omega))).trans (if_neg (by omega))).trans (if_neg (by omega))).trans (if_pos qm)
      refine sf_66_155_17 (φ := ψ19) hI19  (fun ψ31 hI31 hF31 hE31 => ⟨rfl, rfl, ?_⟩)
      have hG31 : Fr [109, 111, 112, 113, 114, 115, 116, 117, 118, 120, 121, 122, 123, 124, 125, 126, 127, 129, 130, 131, 132, 133, 134, 135, 136, 138, 139, 140, 141, 142, 143, 144, 145, 147, 148, 149, 150, 151, 152, 153, 154, 156, 157, 158, 159, 160, 161, 162, 163, 165, 166, 167, 168, 169, 170, 171, 172, 174, 175, 176, 177, 178, 179, 180, 181, 109001, 111000, 111001, 111002, 111003, 111004, 111005, 120000, 120001, 120002, 120003, 120004, 120005, 129000, 129001, 129002, 129003, 129004, 129005, 138000, 138001, 138002, 138003, 138004, 138005, 147000, 147001, 147002, 147003, 147004, 147005, 156000, 156001, 156002, 156003, 156004, 156005, 165000, 165001, 165002, 165003, 165004, 165005, 174000, 174001, 174002, 174003, 174004, 174005] φ ψ31 := fr_tr hG19 hF31 (by decide)
      have e31 := e20_5.trans (bnv_e hE31)
      have f42 := iv_at (a := 108) (k := 1) (lo := 0) (u := 8) hI31 (by decide +kernel)
      have f43 : ψ31 108 1 = ψ19 108 1 := (fr_fd hF31 108 1 (by decide))
      have i44 : Inv (hf_up ψ31 108 1 ((ψ31 108 1) + 1)) := iv_up (lo := 0) (u := 8) hI31 (by decide +kernel) (by omega) (by omega)
      have r44 : Fr [109, 111, 112, 113, 114, 115, 116, 117, 118, 120, 121, 122, 123, 124, 125, 126, 127, 129, 130, 131, 132, 133, 134, 135, 136, 138, 139, 140, 141, 142, 143, 144, 145, 147, 148, 149, 150, 151, 152, 153, 154, 156, 157, 158, 159, 160, 161, 162, 163, 165, 166, 167, 168, 169, 170, 171, 172, 174, 175, 176, 177, 178, 179, 180, 181, 109001, 111000, 111001, 111002, 111003, 111004, 111005, 120000, 120001, 120002, 120003, 120004, 120005, 129000, 129001, 129002, 129003, 129004, 129005, 138000, 138001, 138002, 138003, 138004, 138005, 147000, 147001, 147002, 147003, 147004, 147005, 156000, 156001, 156002, 156003, 156004, 156005, 165000, 165001, 165002, 165003, 165004, 165005, 174000, 174001, 174002, 174003, 174004, 174005] φ (hf_up ψ31 108 1 ((ψ31 108 1) + 1)) := fr_up hG31 (by decide)
      exact hQ (hf_up ψ31 108 1 ((ψ31 108 1) + 1)) i44 r44 e31
    · skip
      have e20_6 := (((((((e19).trans (if_neg (by omega))).trans (if_neg (by omega))).trans (if_neg (by omega))).trans (if_neg (by omega))).trans (if_neg (by omega))).trans (if_neg (by omega))).trans (if_pos qm)
      refine sf_66_164_17 (φ := ψ19) hI19  (fun ψ33 hI33 hF33 hE33 => ⟨rfl, rfl, ?_⟩)
      have hG33 : Fr [109, 111, 112, 113, 114, 115, 116, 117, 118, 120, 121, 122, 123, 124, 125, 126, 127, 129, 130, 131, 132, 133, 134, 135, 136, 138, 139, 140, 141, 142, 143, 144, 145, 147, 148, 149, 150, 151, 152, 153, 154, 156, 157, 158, 159, 160, 161, 162, 163, 165, 166, 167, 168, 169, 170, 171, 172, 174, 175, 176, 177, 178, 179, 180, 181, 109001, 111000, 111001, 111002, 111003, 111004, 111005, 120000, 120001, 120002, 120003, 120004, 120005, 129000, 129001, 129002, 129003, 129004, 129005, 138000, 138001, 138002, 138003, 138004, 138005, 147000, 147001, 147002, 147003, 147004, 147005, 156000, 156001, 156002, 156003, 156004, 156005, 165000, 165001, 165002, 165003, 165004, 165005, 174000, 174001, 174002, 174003, 174004, 174005] φ ψ33 := fr_tr hG19 hF33 (by decide)
      have e33 := e20_6.trans (bnv_e hE33)
      have f45 := iv_at (a := 108) (k := 1) (lo := 0) (u := 8) hI33 (by decide +kernel)
      have f46 : ψ33 108 1 = ψ19 108 1 := (fr_fd hF33 108 1 (by decide))
      have i47 : Inv (hf_up ψ33 108 1 ((ψ33 108 1) + 1)) := iv_up (lo := 0) (u := 8) hI33 (by decide +kernel) (by omega) (by omega)
      have r47 : Fr [109, 111, 112, 113, 114, 115, 116, 117, 118, 120, 121, 122, 123, 124, 125, 126, 127, 129, 130, 131, 132, 133, 134, 135, 136, 138, 139, 140, 141, 142, 143, 144, 145, 147, 148, 149, 150, 151, 152, 153, 154, 156, 157, 158, 159, 160, 161, 162, 163, 165, 166, 167, 168, 169, 170, 171, 172, 174, 175, 176, 177, 178, 179, 180, 181, 109001, 111000, 111001, 111002, 111003, 111004, 111005, 120000, 120001, 120002, 120003, 120004, 120005, 129000, 129001, 129002, 129003, 129004, 129005, 138000, 138001, 138002, 138003, 138004, 138005, 147000, 147001, 147002, 147003, 147004, 147005, 156000, 156001, 156002, 156003, 156004, 156005, 165000, 165001, 165002, 165003, 165004, 165005, 174000, 174001, 174002, 174003, 174004, 174005] φ (hf_up ψ33 108 1 ((ψ33 108 1) + 1)) := fr_up hG33 (by decide)
      exact hQ (hf_up ψ33 108 1 ((ψ33 108 1) + 1)) i47 r47 e33
    · skip
      have e20_7 := (((((((e19).trans (if_neg (by omega))).trans (if_neg (by omega))).trans (if_neg (by omega))).trans (if_neg (by omega))).trans (if_neg (by omega))).trans (if_neg (by omega))).trans (if_neg (by omega))
      refine sf_66_173_17 (φ := ψ19) hI19  (fun ψ35 hI35 hF35 hE35 => ⟨rfl, rfl, ?_⟩)
      have hG35 : Fr [109, 111, 112, 113, 114, 115, 116, 117, 118, 120, 121, 122, 123, 124, 125, 126, 127, 129, 130, 131, 132, 133, 134, 135, 136, 138, 139, 140, 141, 142, 143, 144, 145, 147, 148, 149, 150, 151, 152, 153, 154, 156, 157, 158, 159, 160, 161, 162, 163, 165, 166, 167, 168, 169, 170, 171, 172, 174, 175, 176, 177, 178, 179, 180, 181, 109001, 111000, 111001, 111002, 111003, 111004, 111005, 120000, 120001, 120002, 120003, 120004, 120005, 129000, 129001, 129002, 129003, 129004, 129005, 138000, 138001, 138002, 138003, 138004, 138005, 147000, 147001, 147002, 147003, 147004, 147005, 156000, 156001, 156002, 156003, 156004, 156005, 165000, 165001, 165002, 165003, 165004, 165005, 174000, 174001, 174002, 174003, 174004, 174005] φ ψ35 := fr_tr hG19 hF35 (by decide)
      have e35 := e20_7.trans (bnv_e hE35)
      have f48 := iv_at (a := 108) (k := 1) (lo := 0) (u := 8) hI35 (by decide +kernel)
      have f49 : ψ35 108 1 = ψ19 108 1 := (fr_fd hF35 108 1 (by decide))
      have i50 : Inv (hf_up ψ35 108 1 ((ψ35 108 1) + 1)) := iv_up (lo := 0) (u := 8) hI35 (by decide +kernel) (by omega) (by omega)
      have r50 : Fr [109, 111, 112, 113, 114, 115, 116, 117, 118, 120, 121, 122, 123, 124, 125, 126, 127, 129, 130, 131, 132, 133, 134, 135, 136, 138, 139, 140, 141, 142, 143, 144, 145, 147, 148, 149, 150, 151, 152, 153, 154, 156, 157, 158, 159, 160, 161, 162, 163, 165, 166, 167, 168, 169, 170, 171, 172, 174, 175, 176, 177, 178, 179, 180, 181, 109001, 111000, 111001, 111002, 111003, 111004, 111005, 120000, 120001, 120002, 120003, 120004, 120005, 129000, 129001, 129002, 129003, 129004, 129005, 138000, 138001, 138002, 138003, 138004, 138005, 147000, 147001, 147002, 147003, 147004, 147005, 156000, 156001, 156002, 156003, 156004, 156005, 165000, 165001, 165002, 165003, 165004, 165005, 174000, 174001, 174002, 174003, 174004, 174005] φ (hf_up ψ35 108 1 ((ψ35 108 1) + 1)) := fr_up hG35 (by decide)
      exact hQ (hf_up ψ35 108 1 ((ψ35 108 1) + 1)) i50 r50 e35
theorem sf_86_0_v {sc : List Int} {d : Nat} {φ : hf_F} {x : Nat} {Q : Option jm_V → hf_F → Nat → Prop} 
    (H : hw sc (d + 1) 87 0 [(0, (2, 17))] [] φ x (fun r ψ1 y1 => y1 = x ∧ φ = ψ1 ∧ (∃ z1 : Int, r = some (0, z1) ∧ (hi z1 ∧ (¬ z1 = 0 → Q (some (0, z1)) φ x) ∧ (¬ (¬ z1 = 0) → hw sc (d + 1) 80 0 [(0, (2, 108)), (1, (2, 17))] [] φ x (fun r ψ4 y4 => y4 = x ∧ (r = none ∧ (hw sc (d + 1) 88 0 [(0, (2, 17))] [] ψ4 x (fun r ψ5 y5 => y5 = x ∧ (r = none ∧ (Q (some (0, z1)) ψ5 x))))))))))) :
    hw sc (d + 2) 86 0 [(0, (2, 0))] [] φ x Q := by
  refine hw_ald (b := 0) (e := 0) (by decide +kernel) rfl (by decide) ?_
  refine hr_gr (w := 4) (b := 0) (e := 1) 0 rfl (by decide +kernel) ?_
  refine hr_gr (w := 17) (b := 2) (e := 1) 4 rfl (by decide +kernel) ?_
  refine hr_call (a0 := 14) (b := 87) (e := 1) (nl := 1) (As := []) (R := []) 17 rfl (by decide +kernel) rfl rfl (Nat.le_of_ble_eq_true rfl) (Nat.le_of_ble_eq_true rfl) ?_
  refine hw_mono H ?_
  rintro r ψ1 y1 ⟨hyx, hψx, z1, hr, H⟩
  subst hyx
  subst hψx
  subst hr
  refine ⟨hne0, ?_⟩
  show hw sc (d + 2) 86 10 [(0, (2, 0))] [(0, z1)] φ y1 Q
  refine hw_st (L' := (jm_st1 [(0, (2, 0))] 1 (0, z1))) (b := 1) (e := 0) (by decide +kernel) rfl ?_
  refine hw_ld (b := 1) (e := 0) (by decide +kernel) get_st1e ?_
  obtain ⟨hz2, ht2, hf2⟩ := H
  refine hw_if (a0 := 0) (b := 1) (e := 39) (by decide +kernel) hz2 (fun q => ?_) (fun q => ?_)
  · have H := ht2 q
    refine hw_ld (b := 1) (e := 0) (by decide +kernel) get_st1e ?_
    exact hw_ret (a0 := 0) (e := 0) (by decide +kernel) (Or.inl rfl) H
  · have H := hf2 q
    refine hw_ald (b := 0) (e := 0) (by decide +kernel) (get_st1 rfl (by decide) (fun q => tg2 q.2)) (by decide) ?_
    refine hr_gr (w := 108) (b := 0) (e := 5) 0 rfl (by decide +kernel) ?_
    refine hw_ald (b := 0) (e := 0) (by decide +kernel) (get_st1 rfl (by decide) (fun q => tg2 q.2)) (by decide) ?_
    refine hr_gr (w := 4) (b := 0) (e := 1) 0 rfl (by decide +kernel) ?_
    refine hr_gr (w := 17) (b := 2) (e := 1) 4 rfl (by decide +kernel) ?_
    refine hr_call (a0 := 16) (b := 80) (e := 2) (nl := 2) (As := [(2, 17)]) (R := []) 108 rfl (by decide +kernel) rfl rfl (Nat.le_of_ble_eq_true rfl) (Nat.le_of_ble_eq_true rfl) ?_
    refine hw_mono H ?_
    rintro r ψ4 y4 ⟨hyx, hr, H⟩
    subst hyx
    subst hr
    refine ⟨hnen, ?_⟩
    show hw sc (d + 2) 86 29 (jm_st1 [(0, (2, 0))] 1 (0, z1)) [] ψ4 y4 Q
    refine hw_ald (b := 0) (e := 0) (by decide +kernel) (get_st1 rfl (by decide) (fun q => tg2 q.2)) (by decide) ?_
    refine hr_gr (w := 4) (b := 0) (e := 1) 0 rfl (by decide +kernel) ?_
    refine hr_gr (w := 17) (b := 2) (e := 1) 4 rfl (by decide +kernel) ?_
    refine hr_call (a0 := 14) (b := 88) (e := 1) (nl := 1) (As := []) (R := []) 17 rfl (by decide +kernel) rfl rfl (Nat.le_of_ble_eq_true rfl) (Nat.le_of_ble_eq_true rfl) ?_
    refine hw_mono H ?_
    rintro r ψ5 y5 ⟨hyx, hr, H⟩
    subst hyx
    subst hr
    refine ⟨hnen, ?_⟩
    show hw sc (d + 2) 86 39 (jm_st1 [(0, (2, 0))] 1 (0, z1)) [] ψ5 y5 Q
    refine hw_ld (b := 1) (e := 0) (by decide +kernel) get_st1e ?_
    exact hw_ret (a0 := 0) (e := 0) (by decide +kernel) (Or.inl rfl) H
theorem sf_86_0 {sc : List Int} {d : Nat} {φ : hf_F} {x : Nat} {Q : Option jm_V → hf_F → Nat → Prop}  (hI : Inv φ)  (hQ : ∀ (r : Int) (ψ : hf_F), Inv ψ → Fr [23, 109, 111, 112, 113, 114, 115, 116, 117, 118, 120, 121, 122, 123, 124, 125, 126, 127, 129, 130, 131, 132, 133, 134, 135, 136, 138, 139, 140, 141, 142, 143, 144, 145, 147, 148, 149, 150, 151, 152, 153, 154, 156, 157, 158, 159, 160, 161, 162, 163, 165, 166, 167, 168, 169, 170, 171, 172, 174, 175, 176, 177, 178, 179, 180, 181, 18001, 18002, 18003, 18005, 109001, 111000, 111001, 111002, 111003, 111004, 111005, 120000, 120001, 120002, 120003, 120004, 120005, 129000, 129001, 129002, 129003, 129004, 129005, 138000, 138001, 138002, 138003, 138004, 138005, 147000, 147001, 147002, 147003, 147004, 147005, 156000, 156001, 156002, 156003, 156004, 156005, 165000, 165001, 165002, 165003, 165004, 165005, 174000, 174001, 174002, 174003, 174004, 174005] φ ψ → True → F_RideLaws_whistle_0 φ = (r, ψ) → Q (some (0, r)) ψ x) : hw sc (d + 2) 86 0 [(0, (2, 0))] [] φ x Q := by
  apply sf_86_0_v
  have e0 : F_RideLaws_whistle_0 φ = _ := rfl
  refine sf_87_17 (φ := φ) hI  (fun z1 hp1 hE1 => ⟨rfl, rfl, z1, rfl, ?_⟩)
  have e1 := e0.trans (bnp_e hE1)
  refine ⟨by unfold hi; omega, fun q2 => ?_, fun q2 => ?_⟩
  · skip
    have e2a := e1.trans (if_pos q2)
    exact hQ z1 φ hI (fr_rf) trivial e2a
  · skip
    have e2b := e1.trans (if_neg q2)
    refine sf_80_108_17 (φ := φ) hI  (fun ψ4 hI4 hF4 hE4 => ⟨rfl, rfl, ?_⟩)
    have hG4 : Fr [23, 109, 111, 112, 113, 114, 115, 116, 117, 118, 120, 121, 122, 123, 124, 125, 126, 127, 129, 130, 131, 132, 133, 134, 135, 136, 138, 139, 140, 141, 142, 143, 144, 145, 147, 148, 149, 150, 151, 152, 153, 154, 156, 157, 158, 159, 160, 161, 162, 163, 165, 166, 167, 168, 169, 170, 171, 172, 174, 175, 176, 177, 178, 179, 180, 181, 18001, 18002, 18003, 18005, 109001, 111000, 111001, 111002, 111003, 111004, 111005, 120000, 120001, 120002, 120003, 120004, 120005, 129000, 129001, 129002, 129003, 129004, 129005, 138000, 138001, 138002, 138003, 138004, 138005, 147000, 147001, 147002, 147003, 147004, 147005, 156000, 156001, 156002, 156003, 156004, 156005, 165000, 165001, 165002, 165003, 165004, 165005, 174000, 174001, 174002, 174003, 174004, 174005] φ ψ4 := fr_tr (fr_rf) hF4 (by decide)
    have e4 := e2b.trans (bnv_e hE4)
    refine sf_88_17 (φ := ψ4) hI4  (fun ψ5 hI5 hF5 hE5 => ⟨rfl, rfl, ?_⟩)
    have hG5 : Fr [23, 109, 111, 112, 113, 114, 115, 116, 117, 118, 120, 121, 122, 123, 124, 125, 126, 127, 129, 130, 131, 132, 133, 134, 135, 136, 138, 139, 140, 141, 142, 143, 144, 145, 147, 148, 149, 150, 151, 152, 153, 154, 156, 157, 158, 159, 160, 161, 162, 163, 165, 166, 167, 168, 169, 170, 171, 172, 174, 175, 176, 177, 178, 179, 180, 181, 18001, 18002, 18003, 18005, 109001, 111000, 111001, 111002, 111003, 111004, 111005, 120000, 120001, 120002, 120003, 120004, 120005, 129000, 129001, 129002, 129003, 129004, 129005, 138000, 138001, 138002, 138003, 138004, 138005, 147000, 147001, 147002, 147003, 147004, 147005, 156000, 156001, 156002, 156003, 156004, 156005, 165000, 165001, 165002, 165003, 165004, 165005, 174000, 174001, 174002, 174003, 174004, 174005] φ ψ5 := fr_tr hG4 hF5 (by decide)
    have e5 := e4.trans (bnv_e hE5)
    exact hQ z1 ψ5 hI5 hG5 trivial e5
theorem sf_78_0_v {sc : List Int} {d : Nat} {φ : hf_F} {x : Nat} {Q : Option jm_V → hf_F → Nat → Prop} {v1 v2 : Int}
    (H : hw sc (d + 1) 70 0 [(0, (2, 0)), (1, (0, 3)), (2, (0, v1))] [] φ x (fun r ψ1 y1 => y1 = x ∧ φ = ψ1 ∧ (∃ z1 : Int, r = some (0, z1) ∧ (hi z1 ∧ (z1 = 0 → Q (some (0, (-1 : Int))) φ x) ∧ (¬ z1 = 0 → hw sc (d + 1) 70 0 [(0, (2, 0)), (1, (0, 1)), (2, (0, v2))] [] φ x (fun r ψ4 y4 => y4 = x ∧ φ = ψ4 ∧ (∃ z4 : Int, r = some (0, z4) ∧ (hi z4 ∧ (¬ z4 = 0 → hw sc (d + 1) 79 0 [(0, (2, 17)), (1, (0, v1)), (2, (0, v2))] [] φ x (fun r ψ6 y6 => y6 = x ∧ φ = ψ6 ∧ (∃ z6 : Int, r = some (0, z6) ∧ (hi z6 ∧ (¬ z6 = 0 → Q (some (0, z6)) φ x) ∧ (¬ (¬ z6 = 0) → hw sc (d + 1) 80 0 [(0, (2, 108)), (1, (2, 17))] [] φ x (fun r ψ9 y9 => y9 = x ∧ (r = none ∧ (hw sc (d + 1) 52 0 [(0, (2, 17)), (1, (0, v1)), (2, (0, v2))] [] ψ9 x (fun r ψ10 y10 => y10 = x ∧ (r = none ∧ (Q (some (0, z6)) ψ10 x))))))))))) ∧ (¬ (¬ z4 = 0) → Q (some (0, (-1 : Int))) φ x))))))))) :
    hw sc (d + 2) 78 0 [(0, (2, 0)), (1, (0, v1)), (2, (0, v2))] [] φ x Q := by
  refine hw_ald (b := 0) (e := 0) (by decide +kernel) rfl (by decide) ?_
  refine hw_k (c := 3) (b := 0) (e := 1) (by decide +kernel) ?_
  refine hw_ld (b := 1) (e := 0) (by decide +kernel) rfl ?_
  refine hr_call (a0 := 10) (b := 70) (e := 3) (nl := 3) (As := [(0, 3), (0, v1)]) (R := []) 0 rfl (by decide +kernel) rfl rfl (Nat.le_of_ble_eq_true rfl) (Nat.le_of_ble_eq_true rfl) ?_
  refine hw_mono H ?_
  rintro r ψ1 y1 ⟨hyx, hψx, z1, hr, H⟩
  subst hyx
  subst hψx
  subst hr
  refine ⟨hne0, ?_⟩
  show hw sc (d + 2) 78 6 [(0, (2, 0)), (1, (0, v1)), (2, (0, v2))] [(0, z1)] φ y1 Q
  obtain ⟨hz2, ht2, hf2⟩ := H
  refine hw_if (a0 := 0) (b := 0) (e := 18) (by decide +kernel) hz2 (fun q => ?_) (fun q => ?_)
  · have H := ht2 q
    refine hw_k (c := (-1 : Int)) (b := 0) (e := 1) (by decide +kernel) ?_
    exact hw_ret (a0 := 0) (e := 0) (by decide +kernel) (Or.inl rfl) H
  · have H := hf2 q
    refine hw_ald (b := 0) (e := 0) (by decide +kernel) rfl (by decide) ?_
    refine hw_k (c := 1) (b := 0) (e := 1) (by decide +kernel) ?_
    refine hw_ld (b := 2) (e := 0) (by decide +kernel) rfl ?_
    refine hr_call (a0 := 10) (b := 70) (e := 3) (nl := 3) (As := [(0, 1), (0, v2)]) (R := []) 0 rfl (by decide +kernel) rfl rfl (Nat.le_of_ble_eq_true rfl) (Nat.le_of_ble_eq_true rfl) ?_
    refine hw_mono H ?_
    rintro r ψ4 y4 ⟨hyx, hψx, z4, hr, H⟩
    subst hyx
    subst hψx
    subst hr
    refine ⟨hne0, ?_⟩
    show hw sc (d + 2) 78 15 [(0, (2, 0)), (1, (0, v1)), (2, (0, v2))] [(0, z4)] φ y4 Q
    obtain ⟨hz5, ht5, hf5⟩ := H
    refine hw_if (a0 := 0) (b := 1) (e := 20) (by decide +kernel) hz5 (fun q => ?_) (fun q => ?_)
    · have H := ht5 q
      refine hw_ald (b := 0) (e := 0) (by decide +kernel) rfl (by decide) ?_
      refine hr_gr (w := 4) (b := 0) (e := 1) 0 rfl (by decide +kernel) ?_
      refine hr_gr (w := 17) (b := 2) (e := 1) 4 rfl (by decide +kernel) ?_
      refine hw_ld (b := 1) (e := 0) (by decide +kernel) rfl ?_
      refine hw_ld (b := 2) (e := 0) (by decide +kernel) rfl ?_
      refine hr_call (a0 := 14) (b := 79) (e := 3) (nl := 3) (As := [(0, v1), (0, v2)]) (R := []) 17 rfl (by decide +kernel) rfl rfl (Nat.le_of_ble_eq_true rfl) (Nat.le_of_ble_eq_true rfl) ?_
      refine hw_mono H ?_
      rintro r ψ6 y6 ⟨hyx, hψx, z6, hr, H⟩
      subst hyx
      subst hψx
      subst hr
      refine ⟨hne0, ?_⟩
      show hw sc (d + 2) 78 32 [(0, (2, 0)), (1, (0, v1)), (2, (0, v2))] [(0, z6)] φ y6 Q
      refine hw_st (L' := (jm_st1 [(0, (2, 0)), (1, (0, v1)), (2, (0, v2))] 3 (0, z6))) (b := 3) (e := 0) (by decide +kernel) rfl ?_
      refine hw_ld (b := 3) (e := 0) (by decide +kernel) get_st1e ?_
      obtain ⟨hz7, ht7, hf7⟩ := H
      refine hw_if (a0 := 0) (b := 1) (e := 63) (by decide +kernel) hz7 (fun q => ?_) (fun q => ?_)
      · have H := ht7 q
        refine hw_ld (b := 3) (e := 0) (by decide +kernel) get_st1e ?_
        exact hw_ret (a0 := 0) (e := 0) (by decide +kernel) (Or.inl rfl) H
      · have H := hf7 q
        refine hw_ald (b := 0) (e := 0) (by decide +kernel) (get_st1 rfl (by decide) (fun q => absurd q.1 (by decide))) (by decide) ?_
        refine hr_gr (w := 108) (b := 0) (e := 5) 0 rfl (by decide +kernel) ?_
        refine hw_ald (b := 0) (e := 0) (by decide +kernel) (get_st1 rfl (by decide) (fun q => absurd q.1 (by decide))) (by decide) ?_
        refine hr_gr (w := 4) (b := 0) (e := 1) 0 rfl (by decide +kernel) ?_
        refine hr_gr (w := 17) (b := 2) (e := 1) 4 rfl (by decide +kernel) ?_
        refine hr_call (a0 := 16) (b := 80) (e := 2) (nl := 2) (As := [(2, 17)]) (R := []) 108 rfl (by decide +kernel) rfl rfl (Nat.le_of_ble_eq_true rfl) (Nat.le_of_ble_eq_true rfl) ?_
        refine hw_mono H ?_
        rintro r ψ9 y9 ⟨hyx, hr, H⟩
        subst hyx
        subst hr
        refine ⟨hnen, ?_⟩
        show hw sc (d + 2) 78 51 (jm_st1 [(0, (2, 0)), (1, (0, v1)), (2, (0, v2))] 3 (0, z6)) [] ψ9 y9 Q
        refine hw_ald (b := 0) (e := 0) (by decide +kernel) (get_st1 rfl (by decide) (fun q => absurd q.1 (by decide))) (by decide) ?_
        refine hr_gr (w := 4) (b := 0) (e := 1) 0 rfl (by decide +kernel) ?_
        refine hr_gr (w := 17) (b := 2) (e := 1) 4 rfl (by decide +kernel) ?_
        refine hw_ld (b := 1) (e := 0) (by decide +kernel) (get_st1 rfl (by decide) (fun q => absurd q.1 (by decide))) ?_
        refine hw_ld (b := 2) (e := 0) (by decide +kernel) (get_st1 rfl (by decide) (fun q => tg0 q.2)) ?_
        refine hr_call (a0 := 14) (b := 52) (e := 3) (nl := 3) (As := [(0, v1), (0, v2)]) (R := []) 17 rfl (by decide +kernel) rfl rfl (Nat.le_of_ble_eq_true rfl) (Nat.le_of_ble_eq_true rfl) ?_
        refine hw_mono H ?_
        rintro r ψ10 y10 ⟨hyx, hr, H⟩
        subst hyx
        subst hr
        refine ⟨hnen, ?_⟩
        show hw sc (d + 2) 78 63 (jm_st1 [(0, (2, 0)), (1, (0, v1)), (2, (0, v2))] 3 (0, z6)) [] ψ10 y10 Q
        refine hw_ld (b := 3) (e := 0) (by decide +kernel) get_st1e ?_
        exact hw_ret (a0 := 0) (e := 0) (by decide +kernel) (Or.inl rfl) H
    · have H := hf5 q
      refine hw_k (c := (-1 : Int)) (b := 0) (e := 1) (by decide +kernel) ?_
      exact hw_ret (a0 := 0) (e := 0) (by decide +kernel) (Or.inl rfl) H
theorem sf_78_0 {sc : List Int} {d : Nat} {φ : hf_F} {x : Nat} {Q : Option jm_V → hf_F → Nat → Prop} {v1 v2 : Int} (hI : Inv φ) (h1a : (-2147483648 : Int) ≤ v1) (h1b : v1 ≤ 2147483647) (h2a : (-2147483648 : Int) ≤ v2) (h2b : v2 ≤ 2147483647) (hQ : ∀ (r : Int) (ψ : hf_F), Inv ψ → Fr [19, 20, 109, 111, 112, 113, 114, 115, 116, 117, 118, 120, 121, 122, 123, 124, 125, 126, 127, 129, 130, 131, 132, 133, 134, 135, 136, 138, 139, 140, 141, 142, 143, 144, 145, 147, 148, 149, 150, 151, 152, 153, 154, 156, 157, 158, 159, 160, 161, 162, 163, 165, 166, 167, 168, 169, 170, 171, 172, 174, 175, 176, 177, 178, 179, 180, 181, 109001, 111000, 111001, 111002, 111003, 111004, 111005, 120000, 120001, 120002, 120003, 120004, 120005, 129000, 129001, 129002, 129003, 129004, 129005, 138000, 138001, 138002, 138003, 138004, 138005, 147000, 147001, 147002, 147003, 147004, 147005, 156000, 156001, 156002, 156003, 156004, 156005, 165000, 165001, 165002, 165003, 165004, 165005, 174000, 174001, 174002, 174003, 174004, 174005] φ ψ → True → F_RideLaws_mount_0 φ v1 v2 = (r, ψ) → Q (some (0, r)) ψ x) : hw sc (d + 2) 78 0 [(0, (2, 0)), (1, (0, v1)), (2, (0, v2))] [] φ x Q := by
  apply sf_78_0_v
  have e0 : F_RideLaws_mount_0 φ v1 v2 = _ := rfl
  refine sf_70_0_k1_3 (φ := φ) hI (by omega) (by omega) (fun z1 hp1 hE1 => ⟨rfl, rfl, z1, rfl, ?_⟩)
  have e1 := e0.trans (bnp_e hE1)
  have f1 := iv_at (a := 6) (k := 3) (lo := 0) (u := 6) hI (by decide +kernel)
  refine ⟨by unfold hi; omega, fun q2 => ?_, fun q2 => ?_⟩
  · skip
    have e2a := e1.trans (if_pos q2)
    exact hQ (-1 : Int) φ hI (fr_rf) trivial e2a
  · skip
    have e2b := e1.trans (if_neg q2)
    refine sf_70_0_k1_1 (φ := φ) hI (by omega) (by omega) (fun z4 hp4 hE4 => ⟨rfl, rfl, z4, rfl, ?_⟩)
    have e4 := e2b.trans (bnp_e hE4)
    have f2 := iv_at (a := 6) (k := 1) (lo := 0) (u := 8) hI (by decide +kernel)
    refine ⟨by unfold hi; omega, fun q5 => ?_, fun q5 => ?_⟩
    · skip
      have e5a := e4.trans (if_pos q5)
      refine sf_79_17 (φ := φ) hI (by omega) (by omega) (by omega) (by omega) (fun z6 hp6 hE6 => ⟨rfl, rfl, z6, rfl, ?_⟩)
      have e6 := e5a.trans (bnp_e hE6)
      refine ⟨by unfold hi; omega, fun q7 => ?_, fun q7 => ?_⟩
      · skip
        have e7a := e6.trans (if_pos q7)
        exact hQ z6 φ hI (fr_rf) trivial e7a
      · skip
        have e7b := e6.trans (if_neg q7)
        refine sf_80_108_17 (φ := φ) hI  (fun ψ9 hI9 hF9 hE9 => ⟨rfl, rfl, ?_⟩)
        have hG9 : Fr [19, 20, 109, 111, 112, 113, 114, 115, 116, 117, 118, 120, 121, 122, 123, 124, 125, 126, 127, 129, 130, 131, 132, 133, 134, 135, 136, 138, 139, 140, 141, 142, 143, 144, 145, 147, 148, 149, 150, 151, 152, 153, 154, 156, 157, 158, 159, 160, 161, 162, 163, 165, 166, 167, 168, 169, 170, 171, 172, 174, 175, 176, 177, 178, 179, 180, 181, 109001, 111000, 111001, 111002, 111003, 111004, 111005, 120000, 120001, 120002, 120003, 120004, 120005, 129000, 129001, 129002, 129003, 129004, 129005, 138000, 138001, 138002, 138003, 138004, 138005, 147000, 147001, 147002, 147003, 147004, 147005, 156000, 156001, 156002, 156003, 156004, 156005, 165000, 165001, 165002, 165003, 165004, 165005, 174000, 174001, 174002, 174003, 174004, 174005] φ ψ9 := fr_tr (fr_rf) hF9 (by decide)
        have e9 := e7b.trans (bnv_e hE9)
        refine sf_52_17 (φ := ψ9) hI9 (by omega) (by omega) (by omega) (by omega) (fun ψ10 hI10 hF10 hE10 => ⟨rfl, rfl, ?_⟩)
        have hG10 : Fr [19, 20, 109, 111, 112, 113, 114, 115, 116, 117, 118, 120, 121, 122, 123, 124, 125, 126, 127, 129, 130, 131, 132, 133, 134, 135, 136, 138, 139, 140, 141, 142, 143, 144, 145, 147, 148, 149, 150, 151, 152, 153, 154, 156, 157, 158, 159, 160, 161, 162, 163, 165, 166, 167, 168, 169, 170, 171, 172, 174, 175, 176, 177, 178, 179, 180, 181, 109001, 111000, 111001, 111002, 111003, 111004, 111005, 120000, 120001, 120002, 120003, 120004, 120005, 129000, 129001, 129002, 129003, 129004, 129005, 138000, 138001, 138002, 138003, 138004, 138005, 147000, 147001, 147002, 147003, 147004, 147005, 156000, 156001, 156002, 156003, 156004, 156005, 165000, 165001, 165002, 165003, 165004, 165005, 174000, 174001, 174002, 174003, 174004, 174005] φ ψ10 := fr_tr hG9 hF10 (by decide)
        have e10 := e9.trans (bnv_e hE10)
        exact hQ z6 ψ10 hI10 hG10 trivial e10
    · skip
      have e5b := e4.trans (if_neg q5)
      exact hQ (-1 : Int) φ hI (fr_rf) trivial e5b
theorem sf_83_17_v {sc : List Int} {d : Nat} {φ : hf_F} {x : Nat} {Q : Option jm_V → hf_F → Nat → Prop} {v1 : Int}
    (H : 0 ≤ v1 ∧ v1 < 6 ∧ (hi (φ 20 ((v1).toNat)) ∧ hi (-1 : Int) ∧ (¬ (φ 20 ((v1).toNat)) = (-1 : Int) → Q (some (0, 0)) φ x) ∧ (¬ (¬ (φ 20 ((v1).toNat)) = (-1 : Int)) → Q (some (0, 1)) φ x))) :
    hw sc d 83 0 [(0, (2, 17)), (1, (0, v1))] [] φ x Q := by
  refine hw_ald (b := 0) (e := 0) (by decide +kernel) rfl (by decide) ?_
  refine hr_gr (w := 20) (b := 4) (e := 8) 17 rfl (by decide +kernel) ?_
  refine hw_ld (b := 1) (e := 0) (by decide +kernel) rfl ?_
  obtain ⟨hl1, hu1, H⟩ := H
  refine hr_al (b := 0) (a0 := 0) (e := 0) (n := 6) (w := φ 20 ((v1).toNat)) 20 rfl (by decide +kernel) (by decide) hl1 hu1 rfl ?_
  refine hw_k (c := (-1 : Int)) (b := 0) (e := 1) (by decide +kernel) ?_
  obtain ⟨hz2, hy2, ht2, hf2⟩ := H
  refine hw_if2 (a0 := 0) (b := 1) (e := 14) (by decide +kernel) hz2 hy2 (fun q => ?_) (fun q => ?_)
  · have H := ht2 q
    refine hw_k (c := 0) (b := 0) (e := 1) (by decide +kernel) ?_
    exact hw_ret (a0 := 0) (e := 0) (by decide +kernel) (Or.inl rfl) H
  · have H := hf2 q
    refine hw_k (c := 1) (b := 0) (e := 1) (by decide +kernel) ?_
    refine hw_goto (a0 := 0) (b := 0) (e := 15) (by decide +kernel) ?_
    exact hw_ret (a0 := 0) (e := 0) (by decide +kernel) (Or.inl rfl) H
theorem sf_83_17 {sc : List Int} {d : Nat} {φ : hf_F} {x : Nat} {Q : Option jm_V → hf_F → Nat → Prop} {v1 : Int} (hI : Inv φ) (h1a : 0 ≤ v1) (h1b : v1 ≤ 5) (hQ : ∀ (r : Int), 0 ≤ r ∧ r ≤ 1 → F_State_whyNotAlight_17 φ v1 = r → Q (some (0, r)) φ x) : hw sc d 83 0 [(0, (2, 17)), (1, (0, v1))] [] φ x Q := by
  apply sf_83_17_v
  have e0 : F_State_whyNotAlight_17 φ v1 = _ := rfl
  refine ⟨by omega, by omega, ?_⟩
  have f1 := iv_ar (a := 20) (s := 0) (t := 6) (lo := (-1 : Int)) (u := 7) (z := v1) hI (by decide +kernel) (by omega) (by omega)
  refine ⟨by unfold hi; omega, by unfold hi; omega, fun q2 => ?_, fun q2 => ?_⟩
  · skip
    have e2a := e0.trans (if_pos q2)
    exact hQ 0 ⟨by omega, by omega⟩ e2a
  · skip
    have e2b := e0.trans (if_neg q2)
    exact hQ 1 ⟨by omega, by omega⟩ e2b
theorem sf_82_0_v {sc : List Int} {d : Nat} {φ : hf_F} {x : Nat} {Q : Option jm_V → hf_F → Nat → Prop} {v1 : Int}
    (H : hw sc (d + 1) 70 0 [(0, (2, 0)), (1, (0, 3)), (2, (0, v1))] [] φ x (fun r ψ1 y1 => y1 = x ∧ φ = ψ1 ∧ (∃ z1 : Int, r = some (0, z1) ∧ (hi z1 ∧ (¬ z1 = 0 → hw sc (d + 1) 83 0 [(0, (2, 17)), (1, (0, v1))] [] φ x (fun r ψ3 y3 => y3 = x ∧ φ = ψ3 ∧ (∃ z3 : Int, r = some (0, z3) ∧ (hi z3 ∧ (¬ z3 = 0 → Q (some (0, z3)) φ x) ∧ (¬ (¬ z3 = 0) → hw sc (d + 1) 80 0 [(0, (2, 108)), (1, (2, 17))] [] φ x (fun r ψ6 y6 => y6 = x ∧ (r = none ∧ (hw sc (d + 1) 84 0 [(0, (2, 17)), (1, (0, v1))] [] ψ6 x (fun r ψ7 y7 => y7 = x ∧ (r = none ∧ (Q (some (0, z3)) ψ7 x))))))))))) ∧ (¬ (¬ z1 = 0) → Q (some (0, (-1 : Int))) φ x))))) :
    hw sc (d + 2) 82 0 [(0, (2, 0)), (1, (0, v1))] [] φ x Q := by
  refine hw_ald (b := 0) (e := 0) (by decide +kernel) rfl (by decide) ?_
  refine hw_k (c := 3) (b := 0) (e := 1) (by decide +kernel) ?_
  refine hw_ld (b := 1) (e := 0) (by decide +kernel) rfl ?_
  refine hr_call (a0 := 10) (b := 70) (e := 3) (nl := 3) (As := [(0, 3), (0, v1)]) (R := []) 0 rfl (by decide +kernel) rfl rfl (Nat.le_of_ble_eq_true rfl) (Nat.le_of_ble_eq_true rfl) ?_
  refine hw_mono H ?_
  rintro r ψ1 y1 ⟨hyx, hψx, z1, hr, H⟩
  subst hyx
  subst hψx
  subst hr
  refine ⟨hne0, ?_⟩
  show hw sc (d + 2) 82 6 [(0, (2, 0)), (1, (0, v1))] [(0, z1)] φ y1 Q
  obtain ⟨hz2, ht2, hf2⟩ := H
  refine hw_if (a0 := 0) (b := 1) (e := 11) (by decide +kernel) hz2 (fun q => ?_) (fun q => ?_)
  · have H := ht2 q
    refine hw_ald (b := 0) (e := 0) (by decide +kernel) rfl (by decide) ?_
    refine hr_gr (w := 4) (b := 0) (e := 1) 0 rfl (by decide +kernel) ?_
    refine hr_gr (w := 17) (b := 2) (e := 1) 4 rfl (by decide +kernel) ?_
    refine hw_ld (b := 1) (e := 0) (by decide +kernel) rfl ?_
    refine hr_call (a0 := 14) (b := 83) (e := 2) (nl := 2) (As := [(0, v1)]) (R := []) 17 rfl (by decide +kernel) rfl rfl (Nat.le_of_ble_eq_true rfl) (Nat.le_of_ble_eq_true rfl) ?_
    refine hw_mono H ?_
    rintro r ψ3 y3 ⟨hyx, hψx, z3, hr, H⟩
    subst hyx
    subst hψx
    subst hr
    refine ⟨hne0, ?_⟩
    show hw sc (d + 2) 82 22 [(0, (2, 0)), (1, (0, v1))] [(0, z3)] φ y3 Q
    refine hw_st (L' := (jm_st1 [(0, (2, 0)), (1, (0, v1))] 2 (0, z3))) (b := 2) (e := 0) (by decide +kernel) rfl ?_
    refine hw_ld (b := 2) (e := 0) (by decide +kernel) get_st1e ?_
    obtain ⟨hz4, ht4, hf4⟩ := H
    refine hw_if (a0 := 0) (b := 1) (e := 52) (by decide +kernel) hz4 (fun q => ?_) (fun q => ?_)
    · have H := ht4 q
      refine hw_ld (b := 2) (e := 0) (by decide +kernel) get_st1e ?_
      exact hw_ret (a0 := 0) (e := 0) (by decide +kernel) (Or.inl rfl) H
    · have H := hf4 q
      refine hw_ald (b := 0) (e := 0) (by decide +kernel) (get_st1 rfl (by decide) (fun q => absurd q.1 (by decide))) (by decide) ?_
      refine hr_gr (w := 108) (b := 0) (e := 5) 0 rfl (by decide +kernel) ?_
      refine hw_ald (b := 0) (e := 0) (by decide +kernel) (get_st1 rfl (by decide) (fun q => absurd q.1 (by decide))) (by decide) ?_
      refine hr_gr (w := 4) (b := 0) (e := 1) 0 rfl (by decide +kernel) ?_
      refine hr_gr (w := 17) (b := 2) (e := 1) 4 rfl (by decide +kernel) ?_
      refine hr_call (a0 := 16) (b := 80) (e := 2) (nl := 2) (As := [(2, 17)]) (R := []) 108 rfl (by decide +kernel) rfl rfl (Nat.le_of_ble_eq_true rfl) (Nat.le_of_ble_eq_true rfl) ?_
      refine hw_mono H ?_
      rintro r ψ6 y6 ⟨hyx, hr, H⟩
      subst hyx
      subst hr
      refine ⟨hnen, ?_⟩
      show hw sc (d + 2) 82 41 (jm_st1 [(0, (2, 0)), (1, (0, v1))] 2 (0, z3)) [] ψ6 y6 Q
      refine hw_ald (b := 0) (e := 0) (by decide +kernel) (get_st1 rfl (by decide) (fun q => absurd q.1 (by decide))) (by decide) ?_
      refine hr_gr (w := 4) (b := 0) (e := 1) 0 rfl (by decide +kernel) ?_
      refine hr_gr (w := 17) (b := 2) (e := 1) 4 rfl (by decide +kernel) ?_
      refine hw_ld (b := 1) (e := 0) (by decide +kernel) (get_st1 rfl (by decide) (fun q => tg0 q.2)) ?_
      refine hr_call (a0 := 14) (b := 84) (e := 2) (nl := 3) (As := [(0, v1)]) (R := []) 17 rfl (by decide +kernel) rfl rfl (Nat.le_of_ble_eq_true rfl) (Nat.le_of_ble_eq_true rfl) ?_
      refine hw_mono H ?_
      rintro r ψ7 y7 ⟨hyx, hr, H⟩
      subst hyx
      subst hr
      refine ⟨hnen, ?_⟩
      show hw sc (d + 2) 82 52 (jm_st1 [(0, (2, 0)), (1, (0, v1))] 2 (0, z3)) [] ψ7 y7 Q
      refine hw_ld (b := 2) (e := 0) (by decide +kernel) get_st1e ?_
      exact hw_ret (a0 := 0) (e := 0) (by decide +kernel) (Or.inl rfl) H
  · have H := hf2 q
    refine hw_k (c := (-1 : Int)) (b := 0) (e := 1) (by decide +kernel) ?_
    exact hw_ret (a0 := 0) (e := 0) (by decide +kernel) (Or.inl rfl) H
theorem sf_82_0 {sc : List Int} {d : Nat} {φ : hf_F} {x : Nat} {Q : Option jm_V → hf_F → Nat → Prop} {v1 : Int} (hI : Inv φ) (h1a : (-2147483648 : Int) ≤ v1) (h1b : v1 ≤ 2147483647) (hQ : ∀ (r : Int) (ψ : hf_F), Inv ψ → Fr [19, 20, 109, 111, 112, 113, 114, 115, 116, 117, 118, 120, 121, 122, 123, 124, 125, 126, 127, 129, 130, 131, 132, 133, 134, 135, 136, 138, 139, 140, 141, 142, 143, 144, 145, 147, 148, 149, 150, 151, 152, 153, 154, 156, 157, 158, 159, 160, 161, 162, 163, 165, 166, 167, 168, 169, 170, 171, 172, 174, 175, 176, 177, 178, 179, 180, 181, 109001, 111000, 111001, 111002, 111003, 111004, 111005, 120000, 120001, 120002, 120003, 120004, 120005, 129000, 129001, 129002, 129003, 129004, 129005, 138000, 138001, 138002, 138003, 138004, 138005, 147000, 147001, 147002, 147003, 147004, 147005, 156000, 156001, 156002, 156003, 156004, 156005, 165000, 165001, 165002, 165003, 165004, 165005, 174000, 174001, 174002, 174003, 174004, 174005] φ ψ → True → F_RideLaws_alight_0 φ v1 = (r, ψ) → Q (some (0, r)) ψ x) : hw sc (d + 2) 82 0 [(0, (2, 0)), (1, (0, v1))] [] φ x Q := by
  apply sf_82_0_v
  have e0 : F_RideLaws_alight_0 φ v1 = _ := rfl
  refine sf_70_0_k1_3 (φ := φ) hI (by omega) (by omega) (fun z1 hp1 hE1 => ⟨rfl, rfl, z1, rfl, ?_⟩)
  have e1 := e0.trans (bnp_e hE1)
  have f1 := iv_at (a := 6) (k := 3) (lo := 0) (u := 6) hI (by decide +kernel)
  refine ⟨by unfold hi; omega, fun q2 => ?_, fun q2 => ?_⟩
  · skip
    have e2a := e1.trans (if_pos q2)
    refine sf_83_17 (φ := φ) hI (by omega) (by omega) (fun z3 hp3 hE3 => ⟨rfl, rfl, z3, rfl, ?_⟩)
    have e3 := e2a.trans (bnp_e hE3)
    refine ⟨by unfold hi; omega, fun q4 => ?_, fun q4 => ?_⟩
    · skip
      have e4a := e3.trans (if_pos q4)
      exact hQ z3 φ hI (fr_rf) trivial e4a
    · skip
      have e4b := e3.trans (if_neg q4)
      refine sf_80_108_17 (φ := φ) hI  (fun ψ6 hI6 hF6 hE6 => ⟨rfl, rfl, ?_⟩)
      have hG6 : Fr [19, 20, 109, 111, 112, 113, 114, 115, 116, 117, 118, 120, 121, 122, 123, 124, 125, 126, 127, 129, 130, 131, 132, 133, 134, 135, 136, 138, 139, 140, 141, 142, 143, 144, 145, 147, 148, 149, 150, 151, 152, 153, 154, 156, 157, 158, 159, 160, 161, 162, 163, 165, 166, 167, 168, 169, 170, 171, 172, 174, 175, 176, 177, 178, 179, 180, 181, 109001, 111000, 111001, 111002, 111003, 111004, 111005, 120000, 120001, 120002, 120003, 120004, 120005, 129000, 129001, 129002, 129003, 129004, 129005, 138000, 138001, 138002, 138003, 138004, 138005, 147000, 147001, 147002, 147003, 147004, 147005, 156000, 156001, 156002, 156003, 156004, 156005, 165000, 165001, 165002, 165003, 165004, 165005, 174000, 174001, 174002, 174003, 174004, 174005] φ ψ6 := fr_tr (fr_rf) hF6 (by decide)
      have e6 := e4b.trans (bnv_e hE6)
      refine sf_84_17 (φ := ψ6) hI6 (by omega) (by omega) (fun ψ7 hI7 hF7 hE7 => ⟨rfl, rfl, ?_⟩)
      have hG7 : Fr [19, 20, 109, 111, 112, 113, 114, 115, 116, 117, 118, 120, 121, 122, 123, 124, 125, 126, 127, 129, 130, 131, 132, 133, 134, 135, 136, 138, 139, 140, 141, 142, 143, 144, 145, 147, 148, 149, 150, 151, 152, 153, 154, 156, 157, 158, 159, 160, 161, 162, 163, 165, 166, 167, 168, 169, 170, 171, 172, 174, 175, 176, 177, 178, 179, 180, 181, 109001, 111000, 111001, 111002, 111003, 111004, 111005, 120000, 120001, 120002, 120003, 120004, 120005, 129000, 129001, 129002, 129003, 129004, 129005, 138000, 138001, 138002, 138003, 138004, 138005, 147000, 147001, 147002, 147003, 147004, 147005, 156000, 156001, 156002, 156003, 156004, 156005, 165000, 165001, 165002, 165003, 165004, 165005, 174000, 174001, 174002, 174003, 174004, 174005] φ ψ7 := fr_tr hG6 hF7 (by decide)
      have e7 := e6.trans (bnv_e hE7)
      exact hQ z3 ψ7 hI7 hG7 trivial e7
  · skip
    have e2b := e1.trans (if_neg q2)
    exact hQ (-1 : Int) φ hI (fr_rf) trivial e2b
theorem sf_70_0_k1_2_v {sc : List Int} {d : Nat} {φ : hf_F} {x : Nat} {Q : Option jm_V → hf_F → Nat → Prop} {v2 : Int}
    (H : hi v2 ∧ (v2 < 0 → Q (some (0, 0)) φ x) ∧ (¬ v2 < 0 → hi v2 ∧ hi (φ 6 2) ∧ ((φ 6 2) ≤ v2 → Q (some (0, 0)) φ x) ∧ (¬ (φ 6 2) ≤ v2 → Q (some (0, 1)) φ x))) :
    hw sc d 70 0 [(0, (2, 0)), (1, (0, 2)), (2, (0, v2))] [] φ x Q := by
  refine hw_ld (b := 2) (e := 0) (by decide +kernel) rfl ?_
  obtain ⟨hz1, ht1, hf1⟩ := H
  refine hw_if (a0 := 0) (b := 2) (e := 24) (by decide +kernel) hz1 (fun q => ?_) (fun q => ?_)
  · have H := ht1 q
    refine hw_k (c := 0) (b := 0) (e := 1) (by decide +kernel) ?_
    exact hw_ret (a0 := 0) (e := 1) (by decide +kernel) (Or.inr ⟨rfl, by decide⟩) H
  · have H := hf1 q
    refine hw_ld (b := 2) (e := 0) (by decide +kernel) rfl ?_
    refine hw_ald (b := 0) (e := 0) (by decide +kernel) rfl (by decide) ?_
    refine hr_gr (w := 4) (b := 0) (e := 1) 0 rfl (by decide +kernel) ?_
    refine hr_gr (w := 5) (b := 2) (e := 0) 4 rfl (by decide +kernel) ?_
    refine hr_gr (w := 6) (b := 3) (e := 0) 5 rfl (by decide +kernel) ?_
    refine hw_ld (b := 1) (e := 0) (by decide +kernel) rfl ?_
    refine hr_al (b := 0) (a0 := 0) (e := 0) (n := 5) (w := φ 6 2) 6 rfl (by decide +kernel) (by decide) (by decide) (by decide) rfl ?_
    obtain ⟨hz3, hy3, ht3, hf3⟩ := H
    refine hw_if2 (a0 := 0) (b := 3) (e := 24) (by decide +kernel) hz3 hy3 (fun q => ?_) (fun q => ?_)
    · have H := ht3 q
      refine hw_k (c := 0) (b := 0) (e := 1) (by decide +kernel) ?_
      exact hw_ret (a0 := 0) (e := 1) (by decide +kernel) (Or.inr ⟨rfl, by decide⟩) H
    · have H := hf3 q
      refine hw_k (c := 1) (b := 0) (e := 1) (by decide +kernel) ?_
      refine hw_goto (a0 := 0) (b := 0) (e := 25) (by decide +kernel) ?_
      exact hw_ret (a0 := 0) (e := 1) (by decide +kernel) (Or.inr ⟨rfl, by decide⟩) H
theorem sf_70_0_k1_2 {sc : List Int} {d : Nat} {φ : hf_F} {x : Nat} {Q : Option jm_V → hf_F → Nat → Prop} {v2 : Int} (hI : Inv φ) (h2a : (-2147483648 : Int) ≤ v2) (h2b : v2 ≤ 2147483647) (hQ : ∀ (r : Int), 0 ≤ r ∧ r ≤ 1 ∧ (r = 1 → 0 ≤ v2 ∧ v2 < φ 6 2 ∧ φ 6 2 ≤ 8) → F_RideLaws_has_0_k1_2 φ v2 = r → Q (some (0, r)) φ x) : hw sc d 70 0 [(0, (2, 0)), (1, (0, 2)), (2, (0, v2))] [] φ x Q := by
  apply sf_70_0_k1_2_v
  have e0 : F_RideLaws_has_0_k1_2 φ v2 = _ := rfl
  refine ⟨by unfold hi; omega, fun q1 => ?_, fun q1 => ?_⟩
  · skip
    have e1a := e0.trans (if_pos q1)
    have f1 := iv_at (a := 6) (k := 2) (lo := 0) (u := 8) hI (by decide +kernel)
    exact hQ 0 ⟨by omega, by omega, by omega⟩ e1a
  · skip
    have e1b := e0.trans (if_neg q1)
    have f2 := iv_at (a := 6) (k := 2) (lo := 0) (u := 8) hI (by decide +kernel)
    refine ⟨by unfold hi; omega, by unfold hi; omega, fun q3 => ?_, fun q3 => ?_⟩
    · skip
      have e3a := e1b.trans (if_pos q3)
      exact hQ 0 ⟨by omega, by omega, by omega⟩ e3a
    · skip
      have e3b := e1b.trans (if_neg q3)
      exact hQ 1 ⟨by omega, by omega, by omega⟩ e3b
theorem sf_85_0_v {sc : List Int} {d : Nat} {φ : hf_F} {x : Nat} {Q : Option jm_V → hf_F → Nat → Prop} {v1 v2 : Int}
    (H : hw sc (d + 1) 70 0 [(0, (2, 0)), (1, (0, 3)), (2, (0, v1))] [] φ x (fun r ψ1 y1 => y1 = x ∧ φ = ψ1 ∧ (∃ z1 : Int, r = some (0, z1) ∧ (hi z1 ∧ (z1 = 0 → Q (some (0, (-1 : Int))) φ x) ∧ (¬ z1 = 0 → hw sc (d + 1) 70 0 [(0, (2, 0)), (1, (0, 2)), (2, (0, v2))] [] φ x (fun r ψ4 y4 => y4 = x ∧ φ = ψ4 ∧ (∃ z4 : Int, r = some (0, z4) ∧ (hi z4 ∧ (¬ z4 = 0 → hw sc (d + 1) 54 0 [(0, (2, 17)), (1, (0, v1))] [] φ x (fun r ψ6 y6 => y6 = x ∧ φ = ψ6 ∧ (∃ z6 : Int, r = some (0, z6) ∧ (hi z6 ∧ (¬ z6 = 0 → Q (some (0, z6)) φ x) ∧ (¬ (¬ z6 = 0) → hw sc (d + 1) 80 0 [(0, (2, 108)), (1, (2, 17))] [] φ x (fun r ψ9 y9 => y9 = x ∧ (r = none ∧ (hw sc (d + 1) 55 0 [(0, (2, 17)), (1, (0, v1)), (2, (0, v2))] [] ψ9 x (fun r ψ10 y10 => y10 = x ∧ (r = none ∧ (Q (some (0, z6)) ψ10 x))))))))))) ∧ (¬ (¬ z4 = 0) → Q (some (0, (-1 : Int))) φ x))))))))) :
    hw sc (d + 2) 85 0 [(0, (2, 0)), (1, (0, v1)), (2, (0, v2))] [] φ x Q := by
  refine hw_ald (b := 0) (e := 0) (by decide +kernel) rfl (by decide) ?_
  refine hw_k (c := 3) (b := 0) (e := 1) (by decide +kernel) ?_
  refine hw_ld (b := 1) (e := 0) (by decide +kernel) rfl ?_
  refine hr_call (a0 := 10) (b := 70) (e := 3) (nl := 3) (As := [(0, 3), (0, v1)]) (R := []) 0 rfl (by decide +kernel) rfl rfl (Nat.le_of_ble_eq_true rfl) (Nat.le_of_ble_eq_true rfl) ?_
  refine hw_mono H ?_
  rintro r ψ1 y1 ⟨hyx, hψx, z1, hr, H⟩
  subst hyx
  subst hψx
  subst hr
  refine ⟨hne0, ?_⟩
  show hw sc (d + 2) 85 6 [(0, (2, 0)), (1, (0, v1)), (2, (0, v2))] [(0, z1)] φ y1 Q
  obtain ⟨hz2, ht2, hf2⟩ := H
  refine hw_if (a0 := 0) (b := 0) (e := 18) (by decide +kernel) hz2 (fun q => ?_) (fun q => ?_)
  · have H := ht2 q
    refine hw_k (c := (-1 : Int)) (b := 0) (e := 1) (by decide +kernel) ?_
    exact hw_ret (a0 := 0) (e := 0) (by decide +kernel) (Or.inl rfl) H
  · have H := hf2 q
    refine hw_ald (b := 0) (e := 0) (by decide +kernel) rfl (by decide) ?_
    refine hw_k (c := 2) (b := 0) (e := 1) (by decide +kernel) ?_
    refine hw_ld (b := 2) (e := 0) (by decide +kernel) rfl ?_
    refine hr_call (a0 := 10) (b := 70) (e := 3) (nl := 3) (As := [(0, 2), (0, v2)]) (R := []) 0 rfl (by decide +kernel) rfl rfl (Nat.le_of_ble_eq_true rfl) (Nat.le_of_ble_eq_true rfl) ?_
    refine hw_mono H ?_
    rintro r ψ4 y4 ⟨hyx, hψx, z4, hr, H⟩
    subst hyx
    subst hψx
    subst hr
    refine ⟨hne0, ?_⟩
    show hw sc (d + 2) 85 15 [(0, (2, 0)), (1, (0, v1)), (2, (0, v2))] [(0, z4)] φ y4 Q
    obtain ⟨hz5, ht5, hf5⟩ := H
    refine hw_if (a0 := 0) (b := 1) (e := 20) (by decide +kernel) hz5 (fun q => ?_) (fun q => ?_)
    · have H := ht5 q
      refine hw_ald (b := 0) (e := 0) (by decide +kernel) rfl (by decide) ?_
      refine hr_gr (w := 4) (b := 0) (e := 1) 0 rfl (by decide +kernel) ?_
      refine hr_gr (w := 17) (b := 2) (e := 1) 4 rfl (by decide +kernel) ?_
      refine hw_ld (b := 1) (e := 0) (by decide +kernel) rfl ?_
      refine hr_call (a0 := 14) (b := 54) (e := 2) (nl := 2) (As := [(0, v1)]) (R := []) 17 rfl (by decide +kernel) rfl rfl (Nat.le_of_ble_eq_true rfl) (Nat.le_of_ble_eq_true rfl) ?_
      refine hw_mono H ?_
      rintro r ψ6 y6 ⟨hyx, hψx, z6, hr, H⟩
      subst hyx
      subst hψx
      subst hr
      refine ⟨hne0, ?_⟩
      show hw sc (d + 2) 85 31 [(0, (2, 0)), (1, (0, v1)), (2, (0, v2))] [(0, z6)] φ y6 Q
      refine hw_st (L' := (jm_st1 [(0, (2, 0)), (1, (0, v1)), (2, (0, v2))] 3 (0, z6))) (b := 3) (e := 0) (by decide +kernel) rfl ?_
      refine hw_ld (b := 3) (e := 0) (by decide +kernel) get_st1e ?_
      obtain ⟨hz7, ht7, hf7⟩ := H
      refine hw_if (a0 := 0) (b := 1) (e := 62) (by decide +kernel) hz7 (fun q => ?_) (fun q => ?_)
      · have H := ht7 q
        refine hw_ld (b := 3) (e := 0) (by decide +kernel) get_st1e ?_
        exact hw_ret (a0 := 0) (e := 0) (by decide +kernel) (Or.inl rfl) H
      · have H := hf7 q
        refine hw_ald (b := 0) (e := 0) (by decide +kernel) (get_st1 rfl (by decide) (fun q => absurd q.1 (by decide))) (by decide) ?_
        refine hr_gr (w := 108) (b := 0) (e := 5) 0 rfl (by decide +kernel) ?_
        refine hw_ald (b := 0) (e := 0) (by decide +kernel) (get_st1 rfl (by decide) (fun q => absurd q.1 (by decide))) (by decide) ?_
        refine hr_gr (w := 4) (b := 0) (e := 1) 0 rfl (by decide +kernel) ?_
        refine hr_gr (w := 17) (b := 2) (e := 1) 4 rfl (by decide +kernel) ?_
        refine hr_call (a0 := 16) (b := 80) (e := 2) (nl := 2) (As := [(2, 17)]) (R := []) 108 rfl (by decide +kernel) rfl rfl (Nat.le_of_ble_eq_true rfl) (Nat.le_of_ble_eq_true rfl) ?_
        refine hw_mono H ?_
        rintro r ψ9 y9 ⟨hyx, hr, H⟩
        subst hyx
        subst hr
        refine ⟨hnen, ?_⟩
        show hw sc (d + 2) 85 50 (jm_st1 [(0, (2, 0)), (1, (0, v1)), (2, (0, v2))] 3 (0, z6)) [] ψ9 y9 Q
        refine hw_ald (b := 0) (e := 0) (by decide +kernel) (get_st1 rfl (by decide) (fun q => absurd q.1 (by decide))) (by decide) ?_
        refine hr_gr (w := 4) (b := 0) (e := 1) 0 rfl (by decide +kernel) ?_
        refine hr_gr (w := 17) (b := 2) (e := 1) 4 rfl (by decide +kernel) ?_
        refine hw_ld (b := 1) (e := 0) (by decide +kernel) (get_st1 rfl (by decide) (fun q => absurd q.1 (by decide))) ?_
        refine hw_ld (b := 2) (e := 0) (by decide +kernel) (get_st1 rfl (by decide) (fun q => tg0 q.2)) ?_
        refine hr_call (a0 := 14) (b := 55) (e := 3) (nl := 3) (As := [(0, v1), (0, v2)]) (R := []) 17 rfl (by decide +kernel) rfl rfl (Nat.le_of_ble_eq_true rfl) (Nat.le_of_ble_eq_true rfl) ?_
        refine hw_mono H ?_
        rintro r ψ10 y10 ⟨hyx, hr, H⟩
        subst hyx
        subst hr
        refine ⟨hnen, ?_⟩
        show hw sc (d + 2) 85 62 (jm_st1 [(0, (2, 0)), (1, (0, v1)), (2, (0, v2))] 3 (0, z6)) [] ψ10 y10 Q
        refine hw_ld (b := 3) (e := 0) (by decide +kernel) get_st1e ?_
        exact hw_ret (a0 := 0) (e := 0) (by decide +kernel) (Or.inl rfl) H
    · have H := hf5 q
      refine hw_k (c := (-1 : Int)) (b := 0) (e := 1) (by decide +kernel) ?_
      exact hw_ret (a0 := 0) (e := 0) (by decide +kernel) (Or.inl rfl) H
theorem sf_85_0 {sc : List Int} {d : Nat} {φ : hf_F} {x : Nat} {Q : Option jm_V → hf_F → Nat → Prop} {v1 v2 : Int} (hI : Inv φ) (h1a : (-2147483648 : Int) ≤ v1) (h1b : v1 ≤ 2147483647) (h2a : (-2147483648 : Int) ≤ v2) (h2b : v2 ≤ 2147483647) (hQ : ∀ (r : Int) (ψ : hf_F), Inv ψ → Fr [21, 22, 109, 111, 112, 113, 114, 115, 116, 117, 118, 120, 121, 122, 123, 124, 125, 126, 127, 129, 130, 131, 132, 133, 134, 135, 136, 138, 139, 140, 141, 142, 143, 144, 145, 147, 148, 149, 150, 151, 152, 153, 154, 156, 157, 158, 159, 160, 161, 162, 163, 165, 166, 167, 168, 169, 170, 171, 172, 174, 175, 176, 177, 178, 179, 180, 181, 109001, 111000, 111001, 111002, 111003, 111004, 111005, 120000, 120001, 120002, 120003, 120004, 120005, 129000, 129001, 129002, 129003, 129004, 129005, 138000, 138001, 138002, 138003, 138004, 138005, 147000, 147001, 147002, 147003, 147004, 147005, 156000, 156001, 156002, 156003, 156004, 156005, 165000, 165001, 165002, 165003, 165004, 165005, 174000, 174001, 174002, 174003, 174004, 174005] φ ψ → True → F_RideLaws_learn_0 φ v1 v2 = (r, ψ) → Q (some (0, r)) ψ x) : hw sc (d + 2) 85 0 [(0, (2, 0)), (1, (0, v1)), (2, (0, v2))] [] φ x Q := by
  apply sf_85_0_v
  have e0 : F_RideLaws_learn_0 φ v1 v2 = _ := rfl
  refine sf_70_0_k1_3 (φ := φ) hI (by omega) (by omega) (fun z1 hp1 hE1 => ⟨rfl, rfl, z1, rfl, ?_⟩)
  have e1 := e0.trans (bnp_e hE1)
  have f1 := iv_at (a := 6) (k := 3) (lo := 0) (u := 6) hI (by decide +kernel)
  refine ⟨by unfold hi; omega, fun q2 => ?_, fun q2 => ?_⟩
  · skip
    have e2a := e1.trans (if_pos q2)
    exact hQ (-1 : Int) φ hI (fr_rf) trivial e2a
  · skip
    have e2b := e1.trans (if_neg q2)
    refine sf_70_0_k1_2 (φ := φ) hI (by omega) (by omega) (fun z4 hp4 hE4 => ⟨rfl, rfl, z4, rfl, ?_⟩)
    have e4 := e2b.trans (bnp_e hE4)
    have f2 := iv_at (a := 6) (k := 2) (lo := 0) (u := 8) hI (by decide +kernel)
    refine ⟨by unfold hi; omega, fun q5 => ?_, fun q5 => ?_⟩
    · skip
      have e5a := e4.trans (if_pos q5)
      refine sf_54_17 (φ := φ) hI (by omega) (by omega) (fun z6 hp6 hE6 => ⟨rfl, rfl, z6, rfl, ?_⟩)
      have e6 := e5a.trans (bnp_e hE6)
      have f3 := iv_ar (a := 21) (s := 0) (t := 6) (lo := 0) (u := 6) (z := v1) hI (by decide +kernel) (by omega) (by omega)
      refine ⟨by unfold hi; omega, fun q7 => ?_, fun q7 => ?_⟩
      · skip
        have e7a := e6.trans (if_pos q7)
        exact hQ z6 φ hI (fr_rf) trivial e7a
      · skip
        have e7b := e6.trans (if_neg q7)
        refine sf_80_108_17 (φ := φ) hI  (fun ψ9 hI9 hF9 hE9 => ⟨rfl, rfl, ?_⟩)
        have hG9 : Fr [21, 22, 109, 111, 112, 113, 114, 115, 116, 117, 118, 120, 121, 122, 123, 124, 125, 126, 127, 129, 130, 131, 132, 133, 134, 135, 136, 138, 139, 140, 141, 142, 143, 144, 145, 147, 148, 149, 150, 151, 152, 153, 154, 156, 157, 158, 159, 160, 161, 162, 163, 165, 166, 167, 168, 169, 170, 171, 172, 174, 175, 176, 177, 178, 179, 180, 181, 109001, 111000, 111001, 111002, 111003, 111004, 111005, 120000, 120001, 120002, 120003, 120004, 120005, 129000, 129001, 129002, 129003, 129004, 129005, 138000, 138001, 138002, 138003, 138004, 138005, 147000, 147001, 147002, 147003, 147004, 147005, 156000, 156001, 156002, 156003, 156004, 156005, 165000, 165001, 165002, 165003, 165004, 165005, 174000, 174001, 174002, 174003, 174004, 174005] φ ψ9 := fr_tr (fr_rf) hF9 (by decide)
        have e9 := e7b.trans (bnv_e hE9)
        have f4 := iv_ar (a := 21) (s := 0) (t := 6) (lo := 0) (u := 6) (z := v1) hI9 (by decide +kernel) (by omega) (by omega)
        have f5 : ψ9 21 ((v1).toNat) = φ 21 ((v1).toNat) := (fr_at hF9 21 (by decide) ((v1).toNat))
        refine sf_55_17 (φ := ψ9) hI9 (by omega) (by omega) (by omega) (by omega) (by rw [show ψ9 21 ((v1).toNat) = ψ9 21 ((v1).toNat) from rfl]; constructor <;> omega) (fun ψ10 hI10 hF10 hE10 => ⟨rfl, rfl, ?_⟩)
        have hG10 : Fr [21, 22, 109, 111, 112, 113, 114, 115, 116, 117, 118, 120, 121, 122, 123, 124, 125, 126, 127, 129, 130, 131, 132, 133, 134, 135, 136, 138, 139, 140, 141, 142, 143, 144, 145, 147, 148, 149, 150, 151, 152, 153, 154, 156, 157, 158, 159, 160, 161, 162, 163, 165, 166, 167, 168, 169, 170, 171, 172, 174, 175, 176, 177, 178, 179, 180, 181, 109001, 111000, 111001, 111002, 111003, 111004, 111005, 120000, 120001, 120002, 120003, 120004, 120005, 129000, 129001, 129002, 129003, 129004, 129005, 138000, 138001, 138002, 138003, 138004, 138005, 147000, 147001, 147002, 147003, 147004, 147005, 156000, 156001, 156002, 156003, 156004, 156005, 165000, 165001, 165002, 165003, 165004, 165005, 174000, 174001, 174002, 174003, 174004, 174005] φ ψ10 := fr_tr hG9 hF10 (by decide)
        have e10 := e9.trans (bnv_e hE10)
        exact hQ z6 ψ10 hI10 hG10 trivial e10
    · skip
      have e5b := e4.trans (if_neg q5)
      exact hQ (-1 : Int) φ hI (fr_rf) trivial e5b
theorem sf_91_17_5_v9 {sc : List Int} {d : Nat} {φ : hf_F} {x : Nat} {Q : Option jm_V → hf_F → Nat → Prop} {L : jm_L} {l2 l3 : Int} (g0 : jm_get L 0 = some (2, 17)) (g1 : jm_get L 1 = some (2, 5)) (g2 : jm_get L 2 = some (0, l2)) (g3 : jm_get L 3 = some (0, l3))
    (H : hi l3 ∧ hi l2 ∧ (l2 ≤ l3 → Q none (hf_up φ 17 0 ((φ 17 0) + 1)) x) ∧ (¬ l2 ≤ l3 → 0 ≤ l3 ∧ l3 < 8 ∧ (hw sc (d + 1) 92 0 [(0, (2, 5)), (1, (0, l3)), (2, (0, φ 18 ((l3).toNat)))] [] φ x (fun r ψ4 y4 => y4 = x ∧ φ = ψ4 ∧ (∃ z4 : Int, r = some (0, z4) ∧ (0 ≤ l3 ∧ l3 < 8 ∧ (0 ≤ l3 ∧ l3 < 8 ∧ ((¬ (jm_n z4) = 0 → hw sc (d + 2) 91 9 (jm_st1 (jm_st1 (jm_st1 L 4 (0, z4)) 5 (0, φ 19 ((l3).toNat))) 3 (0, l3 + 1)) [] (hf_up φ 18 ((l3).toNat) z4) x Q) ∧ (¬ (¬ (jm_n z4) = 0) → hi (φ 19 ((l3).toNat)) ∧ hi (-1 : Int) ∧ ((φ 19 ((l3).toNat)) = (-1 : Int) → hw sc (d + 2) 91 9 (jm_st1 (jm_st1 (jm_st1 L 4 (0, z4)) 5 (0, φ 19 ((l3).toNat))) 3 (0, l3 + 1)) [] (hf_up φ 18 ((l3).toNat) z4) x Q) ∧ (¬ (φ 19 ((l3).toNat)) = (-1 : Int) → 0 ≤ (φ 19 ((l3).toNat)) ∧ (φ 19 ((l3).toNat)) < 6 ∧ (hi (φ 21 ((φ 19 ((l3).toNat)).toNat)) ∧ ((φ 21 ((φ 19 ((l3).toNat)).toNat)) ≤ 0 → hw sc (d + 2) 91 9 (jm_st1 (jm_st1 (jm_st1 L 4 (0, z4)) 5 (0, φ 19 ((l3).toNat))) 3 (0, l3 + 1)) [] (hf_up φ 18 ((l3).toNat) z4) x Q) ∧ (¬ (φ 21 ((φ 19 ((l3).toNat)).toNat)) ≤ 0 → hw sc (d + 1) 93 0 [(0, (2, 17)), (1, (2, 5)), (2, (0, φ 19 ((l3).toNat)))] [] (hf_up φ 18 ((l3).toNat) z4) x (fun r ψ11 y11 => y11 = x ∧ (r = none ∧ (hw sc (d + 2) 91 9 (jm_st1 (jm_st1 (jm_st1 L 4 (0, z4)) 5 (0, φ 19 ((l3).toNat))) 3 (0, l3 + 1)) [] ψ11 x Q))))))))))))))) :
    hw sc (d + 2) 91 9 L [] φ x Q := by
  refine hw_ld (b := 3) (e := 0) (by decide +kernel) g3 ?_
  refine hw_ld (b := 2) (e := 0) (by decide +kernel) g2 ?_
  obtain ⟨hz1, hy1, ht1, hf1⟩ := H
  refine hw_if2 (a0 := 0) (b := 3) (e := 77) (by decide +kernel) hz1 hy1 (fun q => ?_) (fun q => ?_)
  · have H := ht1 q
    refine hw_ald (b := 0) (e := 0) (by decide +kernel) g0 (by decide) ?_
    refine hw_dup (a0 := 0) (e := 0) (by decide +kernel) (by decide) ?_
    refine hr_gi (w := φ 17 0) (b := 4) (e := 0) 17 rfl (by decide +kernel) rfl ?_
    refine hw_k (c := 1) (b := 0) (e := 1) (by decide +kernel) ?_
    refine hw_bin (w := (φ 17 0) + 1) (a0 := 0) (b := 0) (e := 0) (by decide +kernel) rfl ?_
    refine hr_pi (b := 4) (e := 0) 17 rfl (by decide +kernel) ?_
    exact hw_vret (a0 := 0) (e := 0) (by decide +kernel) H
  · have H := hf1 q
    refine hw_ald (b := 1) (e := 0) (by decide +kernel) g1 (by decide) ?_
    refine hw_ld (b := 3) (e := 0) (by decide +kernel) g3 ?_
    refine hw_ald (b := 0) (e := 0) (by decide +kernel) g0 (by decide) ?_
    refine hr_gr (w := 18) (b := 4) (e := 6) 17 rfl (by decide +kernel) ?_
    refine hw_ld (b := 3) (e := 0) (by decide +kernel) g3 ?_
    obtain ⟨hl3, hu3, H⟩ := H
    refine hr_al (b := 0) (a0 := 0) (e := 0) (n := 8) (w := φ 18 ((l3).toNat)) 18 rfl (by decide +kernel) (by decide) hl3 hu3 rfl ?_
    refine hr_call (a0 := 13) (b := 92) (e := 3) (nl := 4) (As := [(0, l3), (0, φ 18 ((l3).toNat))]) (R := []) 5 rfl (by decide +kernel) rfl rfl (Nat.le_of_ble_eq_true rfl) (Nat.le_of_ble_eq_true rfl) ?_
    refine hw_mono H ?_
    rintro r ψ4 y4 ⟨hyx, hψx, z4, hr, H⟩
    subst hyx
    subst hψx
    subst hr
    refine ⟨hne0, ?_⟩
    show hw sc (d + 2) 91 25 L [(0, z4)] φ y4 Q
    refine hw_st (L' := (jm_st1 L 4 (0, z4))) (b := 4) (e := 1) (by decide +kernel) rfl ?_
    refine hw_ald (b := 0) (e := 0) (by decide +kernel) (get_st1 g0 (by decide) (fun q => absurd q.1 (by decide))) (by decide) ?_
    refine hr_gr (w := 18) (b := 4) (e := 6) 17 rfl (by decide +kernel) ?_
    refine hw_ld (b := 3) (e := 0) (by decide +kernel) (get_st1 g3 (by decide) (fun q => tg0 q.2)) ?_
    refine hw_ld (b := 4) (e := 1) (by decide +kernel) get_st1e ?_
    obtain ⟨hl5, hu5, H⟩ := H
    refine hr_as (a0 := 0) (e := 4) (n := 8) 18 rfl (by decide +kernel) hl5 hu5 ?_
    refine hw_ald (b := 0) (e := 0) (by decide +kernel) (get_st1 g0 (by decide) (fun q => absurd q.1 (by decide))) (by decide) ?_
    refine hr_gr (w := 19) (b := 4) (e := 7) 17 rfl (by decide +kernel) ?_
    refine hw_ld (b := 3) (e := 0) (by decide +kernel) (get_st1 g3 (by decide) (fun q => tg0 q.2)) ?_
    obtain ⟨hl6, hu6, H⟩ := H
    refine hr_al (b := 0) (a0 := 0) (e := 0) (n := 8) (w := φ 19 ((l3).toNat)) 19 rfl (by decide +kernel) (by decide) hl6 hu6 (hf_up_ne (fun q => absurd q.1 (by decide))) ?_
    refine hw_st (L' := (jm_st1 (jm_st1 L 4 (0, z4)) 5 (0, φ 19 ((l3).toNat)))) (b := 5) (e := 1) (by decide +kernel) rfl ?_
    refine hw_ld (b := 4) (e := 1) (by decide +kernel) (get_st1 get_st1e (by decide) (fun q => tg0 q.2)) ?_
    obtain ⟨ht7, hf7⟩ := H
    refine hw_ifn (a0 := 0) (b := 1) (e := 71) (by decide +kernel) (fun q => ?_) (fun q => ?_)
    · have H := ht7 q
      refine hw_inc (L' := (jm_st1 (jm_st1 (jm_st1 L 4 (0, z4)) 5 (0, φ 19 ((l3).toNat))) 3 (0, l3 + 1))) (c := 1) (b := 3) (e := 0) (by decide +kernel) (get_st1 (get_st1 g3 (by decide) (fun q => tg0 q.2)) (by decide) (fun q => absurd q.1 (by decide))) rfl ?_
      refine hw_goto (a0 := 0) (b := 0) (e := 9) (by decide +kernel) ?_
      exact H
    · have H := hf7 q
      refine hw_ld (b := 5) (e := 1) (by decide +kernel) get_st1e ?_
      refine hw_k (c := (-1 : Int)) (b := 0) (e := 1) (by decide +kernel) ?_
      obtain ⟨hz8, hy8, ht8, hf8⟩ := H
      refine hw_if2 (a0 := 0) (b := 0) (e := 71) (by decide +kernel) hz8 hy8 (fun q => ?_) (fun q => ?_)
      · have H := ht8 q
        refine hw_inc (L' := (jm_st1 (jm_st1 (jm_st1 L 4 (0, z4)) 5 (0, φ 19 ((l3).toNat))) 3 (0, l3 + 1))) (c := 1) (b := 3) (e := 0) (by decide +kernel) (get_st1 (get_st1 g3 (by decide) (fun q => tg0 q.2)) (by decide) (fun q => absurd q.1 (by decide))) rfl ?_
        refine hw_goto (a0 := 0) (b := 0) (e := 9) (by decide +kernel) ?_
        exact H
      · have H := hf8 q
        refine hw_ald (b := 0) (e := 0) (by decide +kernel) (get_st1 (get_st1 g0 (by decide) (fun q => absurd q.1 (by decide))) (by decide) (fun q => absurd q.1 (by decide))) (by decide) ?_
        refine hr_gr (w := 21) (b := 4) (e := 9) 17 rfl (by decide +kernel) ?_
        refine hw_ld (b := 5) (e := 1) (by decide +kernel) get_st1e ?_
        obtain ⟨hl9, hu9, H⟩ := H
        refine hr_al (b := 0) (a0 := 0) (e := 0) (n := 6) (w := φ 21 ((φ 19 ((l3).toNat)).toNat)) 21 rfl (by decide +kernel) (by decide) hl9 hu9 (hf_up_ne (fun q => absurd q.1 (by decide))) ?_
        obtain ⟨hz10, ht10, hf10⟩ := H
        refine hw_if (a0 := 0) (b := 5) (e := 71) (by decide +kernel) hz10 (fun q => ?_) (fun q => ?_)
        · have H := ht10 q
          refine hw_inc (L' := (jm_st1 (jm_st1 (jm_st1 L 4 (0, z4)) 5 (0, φ 19 ((l3).toNat))) 3 (0, l3 + 1))) (c := 1) (b := 3) (e := 0) (by decide +kernel) (get_st1 (get_st1 g3 (by decide) (fun q => tg0 q.2)) (by decide) (fun q => absurd q.1 (by decide))) rfl ?_
          refine hw_goto (a0 := 0) (b := 0) (e := 9) (by decide +kernel) ?_
          exact H
        · have H := hf10 q
          refine hw_ald (b := 0) (e := 0) (by decide +kernel) (get_st1 (get_st1 g0 (by decide) (fun q => absurd q.1 (by decide))) (by decide) (fun q => absurd q.1 (by decide))) (by decide) ?_
          refine hw_ald (b := 1) (e := 0) (by decide +kernel) (get_st1 (get_st1 g1 (by decide) (fun q => absurd q.1 (by decide))) (by decide) (fun q => absurd q.1 (by decide))) (by decide) ?_
          refine hw_ld (b := 5) (e := 1) (by decide +kernel) get_st1e ?_
          refine hr_call (a0 := 14) (b := 93) (e := 3) (nl := 6) (As := [(2, 5), (0, φ 19 ((l3).toNat))]) (R := []) 17 rfl (by decide +kernel) rfl rfl (Nat.le_of_ble_eq_true rfl) (Nat.le_of_ble_eq_true rfl) ?_
          refine hw_mono H ?_
          rintro r ψ11 y11 ⟨hyx, hr, H⟩
          subst hyx
          subst hr
          refine ⟨hnen, ?_⟩
          show hw sc (d + 2) 91 71 (jm_st1 (jm_st1 L 4 (0, z4)) 5 (0, φ 19 ((l3).toNat))) [] ψ11 y11 Q
          refine hw_inc (L' := (jm_st1 (jm_st1 (jm_st1 L 4 (0, z4)) 5 (0, φ 19 ((l3).toNat))) 3 (0, l3 + 1))) (c := 1) (b := 3) (e := 0) (by decide +kernel) (get_st1 (get_st1 g3 (by decide) (fun q => tg0 q.2)) (by decide) (fun q => absurd q.1 (by decide))) rfl ?_
          refine hw_goto (a0 := 0) (b := 0) (e := 9) (by decide +kernel) ?_
          exact H
theorem sf_91_17_5_l9 {sc : List Int} {d x : Nat} {Q : Option jm_V → hf_F → Nat → Prop} : ∀ (n : Nat) (φ : hf_F) (L : jm_L) (l2 l3 : Int), jm_get L 0 = some (2, 17) → jm_get L 1 = some (2, 5) → jm_get L 2 = some (0, l2) → jm_get L 3 = some (0, l3) → Inv φ → 8 - l3 < (n : Int) → 0 ≤ l2 → l2 ≤ 8 → 0 ≤ l3 → l3 ≤ 8 → (∀ ψ : hf_F, Inv ψ → Fr [18, 23, 24, 25, 18000, 18001, 18002, 18003, 18004] φ ψ → F_State_turn_17_5_l9 n φ l2 l3 = ψ → Q none ψ x) → hw sc (d + 2) 91 9 L [] φ x Q := by
  intro n
  induction n with
  | zero =>
    intro φ L l2 l3 g0 g1 g2 g3 hI hM b2a b2b b3a b3b hQ
    exfalso
    omega
  | succ n ih =>
    intro φ L l2 l3 g0 g1 g2 g3 hI hM b2a b2b b3a b3b hQ
    refine sf_91_17_5_v9 g0 g1 g2 g3 ?_
    have e0 := F_State_turn_17_5_l9_s (φ := φ) (l2 := l2) (l3 := l3) n
    refine ⟨by unfold hi; omega, by unfold hi; omega, fun q1 => ?_, fun q1 => ?_⟩
    · skip
      have e1a := e0.trans (if_pos q1)
      have i1 : Inv (hf_up φ 17 0 ((φ 17 0) + 1)) := iv_upn hI (by decide) (by decide) (by decide +kernel)
      have r1 : Fr [18, 23, 24, 25, 18000, 18001, 18002, 18003, 18004] φ (hf_up φ 17 0 ((φ 17 0) + 1)) := fr_up (fr_rf) (by decide)
      exact hQ (hf_up φ 17 0 ((φ 17 0) + 1)) i1 r1 e1a
    · skip
      have e1b := e0.trans (if_neg q1)
      refine ⟨by omega, by omega, ?_⟩
      refine sf_92_5 (φ := φ) hI (by omega) (by omega) (fun z4 hp4 hE4 => ⟨rfl, rfl, z4, rfl, ?_⟩)
      have e4 := e1b.trans (bnp_e hE4)
      refine ⟨by omega, by omega, ?_⟩
      have i2 : Inv (hf_up φ 18 ((l3).toNat) z4) := iv_upIn hI (by decide) (by decide +kernel)
      have r2 : Fr [18, 23, 24, 25, 18000, 18001, 18002, 18003, 18004] φ (hf_up φ 18 ((l3).toNat) z4) := fr_upa (fr_rf) (by decide)
      refine ⟨by omega, by omega, ?_⟩
      have f3 := iv_ar (a := 19) (s := 0) (t := 8) (lo := (-1 : Int)) (u := 5) (z := l3) hI (by decide +kernel) (by omega) (by omega)
      have f4 := hr_n z4
      refine ⟨fun q7 => ?_, fun q7 => ?_⟩
      · skip
        have e7a := e4.trans (if_pos q7)
        exact ih (hf_up φ 18 ((l3).toNat) z4) (jm_st1 (jm_st1 (jm_st1 L 4 (0, z4)) 5 (0, φ 19 ((l3).toNat))) 3 (0, l3 + 1)) l2 (l3 + 1) (get_st1 (get_st1 (get_st1 g0 (by decide) (fun q => absurd q.1 (by decide))) (by decide) (fun q => absurd q.1 (by decide))) (by decide) (fun q => absurd q.1 (by decide))) (get_st1 (get_st1 (get_st1 g1 (by decide) (fun q => absurd q.1 (by decide))) (by decide) (fun q => absurd q.1 (by decide))) (by decide) (fun q => absurd q.1 (by decide))) (get_st1 (get_st1 (get_st1 g2 (by decide) (fun q => absurd q.1 (by decide))) (by decide) (fun q => absurd q.1 (by decide))) (by decide) (fun q => tg0 q.2)) get_st1e i2 (by omega) (by omega) (by omega) (by omega) (by omega) (fun χ hIχ hFχ hEχ => hQ χ hIχ (fr_tr r2 hFχ (by decide)) (e7a.trans hEχ))
      · skip
        have e7b := e4.trans (if_neg q7)
        refine ⟨by unfold hi; omega, by unfold hi; omega, fun q8 => ?_, fun q8 => ?_⟩
        · skip
          have e8a := e7b.trans (if_pos q8)
          exact ih (hf_up φ 18 ((l3).toNat) z4) (jm_st1 (jm_st1 (jm_st1 L 4 (0, z4)) 5 (0, φ 19 ((l3).toNat))) 3 (0, l3 + 1)) l2 (l3 + 1) (get_st1 (get_st1 (get_st1 g0 (by decide) (fun q => absurd q.1 (by decide))) (by decide) (fun q => absurd q.1 (by decide))) (by decide) (fun q => absurd q.1 (by decide))) (get_st1 (get_st1 (get_st1 g1 (by decide) (fun q => absurd q.1 (by decide))) (by decide) (fun q => absurd q.1 (by decide))) (by decide) (fun q => absurd q.1 (by decide))) (get_st1 (get_st1 (get_st1 g2 (by decide) (fun q => absurd q.1 (by decide))) (by decide) (fun q => absurd q.1 (by decide))) (by decide) (fun q => tg0 q.2)) get_st1e i2 (by omega) (by omega) (by omega) (by omega) (by omega) (fun χ hIχ hFχ hEχ => hQ χ hIχ (fr_tr r2 hFχ (by decide)) (e8a.trans hEχ))
        · skip
          have e8b := e7b.trans (if_neg q8)
          refine ⟨by omega, by omega, ?_⟩
          have f5 := iv_ar (a := 21) (s := 0) (t := 6) (lo := 0) (u := 6) (z := φ 19 ((l3).toNat)) hI (by decide +kernel) (by omega) (by omega)
          refine ⟨by unfold hi; omega, fun q10 => ?_, fun q10 => ?_⟩
          · skip
            have e10a := e8b.trans (if_pos q10)
            exact ih (hf_up φ 18 ((l3).toNat) z4) (jm_st1 (jm_st1 (jm_st1 L 4 (0, z4)) 5 (0, φ 19 ((l3).toNat))) 3 (0, l3 + 1)) l2 (l3 + 1) (get_st1 (get_st1 (get_st1 g0 (by decide) (fun q => absurd q.1 (by decide))) (by decide) (fun q => absurd q.1 (by decide))) (by decide) (fun q => absurd q.1 (by decide))) (get_st1 (get_st1 (get_st1 g1 (by decide) (fun q => absurd q.1 (by decide))) (by decide) (fun q => absurd q.1 (by decide))) (by decide) (fun q => absurd q.1 (by decide))) (get_st1 (get_st1 (get_st1 g2 (by decide) (fun q => absurd q.1 (by decide))) (by decide) (fun q => absurd q.1 (by decide))) (by decide) (fun q => tg0 q.2)) get_st1e i2 (by omega) (by omega) (by omega) (by omega) (by omega) (fun χ hIχ hFχ hEχ => hQ χ hIχ (fr_tr r2 hFχ (by decide)) (e10a.trans hEχ))
          · skip
            have e10b := e8b.trans (if_neg q10)
            refine sf_93_17_5 (φ := (hf_up φ 18 ((l3).toNat) z4)) i2 (by omega) (by omega) (by rw [show (hf_up φ 18 ((l3).toNat) z4) 21 ((φ 19 ((l3).toNat)).toNat) = φ 21 ((φ 19 ((l3).toNat)).toNat) from (hf_up_ne (fun q => absurd q.1 (by decide)))]; constructor <;> omega) (fun ψ11 hI11 hF11 hE11 => ⟨rfl, rfl, ?_⟩)
            have hG11 : Fr [18, 23, 24, 25, 18000, 18001, 18002, 18003, 18004] φ ψ11 := fr_tr r2 hF11 (by decide)
            have e11 := e10b.trans (bnv_e hE11)
            exact ih ψ11 (jm_st1 (jm_st1 (jm_st1 L 4 (0, z4)) 5 (0, φ 19 ((l3).toNat))) 3 (0, l3 + 1)) l2 (l3 + 1) (get_st1 (get_st1 (get_st1 g0 (by decide) (fun q => absurd q.1 (by decide))) (by decide) (fun q => absurd q.1 (by decide))) (by decide) (fun q => absurd q.1 (by decide))) (get_st1 (get_st1 (get_st1 g1 (by decide) (fun q => absurd q.1 (by decide))) (by decide) (fun q => absurd q.1 (by decide))) (by decide) (fun q => absurd q.1 (by decide))) (get_st1 (get_st1 (get_st1 g2 (by decide) (fun q => absurd q.1 (by decide))) (by decide) (fun q => absurd q.1 (by decide))) (by decide) (fun q => tg0 q.2)) get_st1e hI11 (by omega) (by omega) (by omega) (by omega) (by omega) (fun χ hIχ hFχ hEχ => hQ χ hIχ (fr_tr hG11 hFχ (by decide)) (e11.trans hEχ))
theorem sf_91_17_5_v {sc : List Int} {d : Nat} {φ : hf_F} {x : Nat} {Q : Option jm_V → hf_F → Nat → Prop} 
    (H : hw sc (d + 2) 91 9 (jm_st1 (jm_st1 [(0, (2, 17)), (1, (2, 5))] 2 (0, φ 6 1)) 3 (0, 0)) [] φ x Q) :
    hw sc (d + 2) 91 0 [(0, (2, 17)), (1, (2, 5))] [] φ x Q := by
  refine hw_ald (b := 1) (e := 0) (by decide +kernel) rfl (by decide) ?_
  refine hr_gr (w := 6) (b := 3) (e := 0) 5 rfl (by decide +kernel) ?_
  refine hw_k (c := 1) (b := 0) (e := 1) (by decide +kernel) ?_
  refine hr_al (b := 0) (a0 := 0) (e := 0) (n := 5) (w := φ 6 1) 6 rfl (by decide +kernel) (by decide) (by decide) (by decide) rfl ?_
  refine hw_st (L' := (jm_st1 [(0, (2, 17)), (1, (2, 5))] 2 (0, φ 6 1))) (b := 2) (e := 0) (by decide +kernel) rfl ?_
  refine hw_k (c := 0) (b := 0) (e := 1) (by decide +kernel) ?_
  refine hw_st (L' := (jm_st1 (jm_st1 [(0, (2, 17)), (1, (2, 5))] 2 (0, φ 6 1)) 3 (0, 0))) (b := 3) (e := 0) (by decide +kernel) rfl ?_
  exact H
theorem sf_91_17_5 {sc : List Int} {d : Nat} {φ : hf_F} {x : Nat} {Q : Option jm_V → hf_F → Nat → Prop}  (hI : Inv φ)  (hQ : ∀ ψ : hf_F, Inv ψ → Fr [18, 23, 24, 25, 18000, 18001, 18002, 18003, 18004] φ ψ → F_State_turn_17_5 φ = ψ → Q none ψ x) : hw sc (d + 2) 91 0 [(0, (2, 17)), (1, (2, 5))] [] φ x Q := by
  apply sf_91_17_5_v
  have e0 : F_State_turn_17_5 φ = _ := rfl
  have f1 := iv_at (a := 6) (k := 1) (lo := 0) (u := 8) hI (by decide +kernel)
  exact sf_91_17_5_l9 ((8 - 0 : Int).toNat + 1) φ (jm_st1 (jm_st1 [(0, (2, 17)), (1, (2, 5))] 2 (0, φ 6 1)) 3 (0, 0)) (φ 6 1) 0 (get_st1 (get_st1 rfl (by decide) (fun q => absurd q.1 (by decide))) (by decide) (fun q => absurd q.1 (by decide))) (get_st1 (get_st1 rfl (by decide) (fun q => tg2 q.2)) (by decide) (fun q => absurd q.1 (by decide))) (get_st1 get_st1e (by decide) (fun q => tg0 q.2)) get_st1e hI (by omega) (by omega) (by omega) (by omega) (by omega) (fun χ hIχ hFχ hEχ => hQ χ hIχ (fr_tr (fr_rf) hFχ (by decide)) (e0.trans hEχ))
theorem sf_90_17_v {sc : List Int} {d : Nat} {φ : hf_F} {x : Nat} {Q : Option jm_V → hf_F → Nat → Prop} 
    (H : Q (some (0, if jm_n 0 < jm_n (1000 - (φ 17 0)) then 1000 - (φ 17 0) else 0)) φ x) :
    hw sc d 90 0 [(0, (2, 17))] [] φ x Q := by
  refine hw_k (c := 0) (b := 0) (e := 1) (by decide +kernel) ?_
  refine hw_k (c := 1000) (b := 2) (e := 3) (by decide +kernel) ?_
  refine hw_ald (b := 0) (e := 0) (by decide +kernel) rfl (by decide) ?_
  refine hr_gi (w := φ 17 0) (b := 4) (e := 0) 17 rfl (by decide +kernel) rfl ?_
  refine hw_bin (w := 1000 - (φ 17 0)) (a0 := 0) (b := 1) (e := 0) (by decide +kernel) rfl ?_
  refine hw_maxn (a0 := 0) (e := 0) (by decide +kernel) (Nat.le_of_ble_eq_true rfl) ?_
  exact hw_ret (a0 := 0) (e := 0) (by decide +kernel) (Or.inl rfl) H
theorem sf_90_17 {sc : List Int} {d : Nat} {φ : hf_F} {x : Nat} {Q : Option jm_V → hf_F → Nat → Prop}  (hI : Inv φ)  (hQ : ∀ (r : Int), True → F_State_ticksLeft_17 φ = r → Q (some (0, r)) φ x) : hw sc d 90 0 [(0, (2, 17))] [] φ x Q := by
  apply sf_90_17_v
  have e0 : F_State_ticksLeft_17 φ = _ := rfl
  have f1 := hr_n (1000 - (φ 17 0))
  have f2 := hr_n 0
  have f3 := hi_n (z := 0) (by unfold hi; omega)
  have f_m1 := hr_maxn 0 (1000 - (φ 17 0))
  exact hQ (if jm_n 0 < jm_n (1000 - (φ 17 0)) then 1000 - (φ 17 0) else 0) trivial e0
theorem sf_89_0_v48 {sc : List Int} {d : Nat} {φ : hf_F} {x : Nat} {Q : Option jm_V → hf_F → Nat → Prop} {L : jm_L} {l1 l2 l3 : Int} (g0 : jm_get L 0 = some (2, 0)) (g1 : jm_get L 1 = some (0, l1)) (g2 : jm_get L 2 = some (0, l2)) (g3 : jm_get L 3 = some (0, l3))
    (H : hi l3 ∧ ((jm_n l2) ≤ l3 → Q (some (0, l2)) φ x) ∧ (¬ (jm_n l2) ≤ l3 → hw sc (d + 2) 91 0 [(0, (2, 17)), (1, (2, 5))] [] φ x (fun r ψ3 y3 => y3 = x ∧ (r = none ∧ (hw sc (d + 3) 89 48 (jm_st1 L 3 (0, l3 + 1)) [] ψ3 x Q))))) :
    hw sc (d + 3) 89 48 L [] φ x Q := by
  refine hw_ld (b := 3) (e := 0) (by decide +kernel) g3 ?_
  refine hw_ld (b := 2) (e := 0) (by decide +kernel) g2 ?_
  obtain ⟨hz1, ht1, hf1⟩ := H
  refine hw_if2r (a0 := 0) (b := 3) (e := 76) (by decide +kernel) hz1 (fun q => ?_) (fun q => ?_)
  · have H := ht1 q
    refine hw_ld (b := 2) (e := 0) (by decide +kernel) g2 ?_
    exact hw_ret (a0 := 0) (e := 0) (by decide +kernel) (Or.inl rfl) H
  · have H := hf1 q
    refine hw_ald (b := 0) (e := 0) (by decide +kernel) g0 (by decide) ?_
    refine hr_gr (w := 4) (b := 0) (e := 1) 0 rfl (by decide +kernel) ?_
    refine hr_gr (w := 17) (b := 2) (e := 1) 4 rfl (by decide +kernel) ?_
    refine hw_ald (b := 0) (e := 0) (by decide +kernel) g0 (by decide) ?_
    refine hr_gr (w := 4) (b := 0) (e := 1) 0 rfl (by decide +kernel) ?_
    refine hr_gr (w := 5) (b := 2) (e := 0) 4 rfl (by decide +kernel) ?_
    refine hr_call (a0 := 14) (b := 91) (e := 2) (nl := 6) (As := [(2, 5)]) (R := []) 17 rfl (by decide +kernel) rfl rfl (Nat.le_of_ble_eq_true rfl) (Nat.le_of_ble_eq_true rfl) ?_
    refine hw_mono H ?_
    rintro r ψ3 y3 ⟨hyx, hr, H⟩
    subst hyx
    subst hr
    refine ⟨hnen, ?_⟩
    show hw sc (d + 3) 89 70 L [] ψ3 y3 Q
    refine hw_inc (L' := (jm_st1 L 3 (0, l3 + 1))) (c := 1) (b := 3) (e := 0) (by decide +kernel) g3 rfl ?_
    refine hw_goto (a0 := 0) (b := 0) (e := 48) (by decide +kernel) ?_
    exact H
theorem sf_89_0_l48 {sc : List Int} {d x : Nat} {Q : Option jm_V → hf_F → Nat → Prop} : ∀ (n : Nat) (φ : hf_F) (L : jm_L) (l1 l2 l3 : Int), jm_get L 0 = some (2, 0) → jm_get L 1 = some (0, l1) → jm_get L 2 = some (0, l2) → jm_get L 3 = some (0, l3) → Inv φ → 60 - l3 < (n : Int) → 1 ≤ l1 → l1 ≤ 60 → 0 ≤ l3 → l3 ≤ 60 → jm_n l2 ≤ 60 → (∀ (r : Int) (ψ : hf_F), Inv ψ → Fr [18, 23, 24, 25, 109, 111, 112, 113, 114, 115, 116, 117, 118, 120, 121, 122, 123, 124, 125, 126, 127, 129, 130, 131, 132, 133, 134, 135, 136, 138, 139, 140, 141, 142, 143, 144, 145, 147, 148, 149, 150, 151, 152, 153, 154, 156, 157, 158, 159, 160, 161, 162, 163, 165, 166, 167, 168, 169, 170, 171, 172, 174, 175, 176, 177, 178, 179, 180, 181, 18000, 18001, 18002, 18003, 18004, 109001, 111000, 111001, 111002, 111003, 111004, 111005, 120000, 120001, 120002, 120003, 120004, 120005, 129000, 129001, 129002, 129003, 129004, 129005, 138000, 138001, 138002, 138003, 138004, 138005, 147000, 147001, 147002, 147003, 147004, 147005, 156000, 156001, 156002, 156003, 156004, 156005, 165000, 165001, 165002, 165003, 165004, 165005, 174000, 174001, 174002, 174003, 174004, 174005] φ ψ → True → F_RideLaws_ticks_0_l48 n φ l1 l2 l3 = (r, ψ) → Q (some (0, r)) ψ x) → hw sc (d + 3) 89 48 L [] φ x Q := by
  intro n
  induction n with
  | zero =>
    intro φ L l1 l2 l3 g0 g1 g2 g3 hI hM b1a b1b b3a b3b c0 hQ
    exfalso
    omega
  | succ n ih =>
    intro φ L l1 l2 l3 g0 g1 g2 g3 hI hM b1a b1b b3a b3b c0 hQ
    refine sf_89_0_v48 g0 g1 g2 g3 ?_
    have e0 := F_RideLaws_ticks_0_l48_s (φ := φ) (l1 := l1) (l2 := l2) (l3 := l3) n
    have f1 := hr_n l2
    refine ⟨by unfold hi; omega, fun q1 => ?_, fun q1 => ?_⟩
    · skip
      have e1a := e0.trans (if_pos q1)
      exact hQ l2 φ hI (fr_rf) trivial e1a
    · skip
      have e1b := e0.trans (if_neg q1)
      refine sf_91_17_5 (φ := φ) hI  (fun ψ3 hI3 hF3 hE3 => ⟨rfl, rfl, ?_⟩)
      have hG3 : Fr [18, 23, 24, 25, 109, 111, 112, 113, 114, 115, 116, 117, 118, 120, 121, 122, 123, 124, 125, 126, 127, 129, 130, 131, 132, 133, 134, 135, 136, 138, 139, 140, 141, 142, 143, 144, 145, 147, 148, 149, 150, 151, 152, 153, 154, 156, 157, 158, 159, 160, 161, 162, 163, 165, 166, 167, 168, 169, 170, 171, 172, 174, 175, 176, 177, 178, 179, 180, 181, 18000, 18001, 18002, 18003, 18004, 109001, 111000, 111001, 111002, 111003, 111004, 111005, 120000, 120001, 120002, 120003, 120004, 120005, 129000, 129001, 129002, 129003, 129004, 129005, 138000, 138001, 138002, 138003, 138004, 138005, 147000, 147001, 147002, 147003, 147004, 147005, 156000, 156001, 156002, 156003, 156004, 156005, 165000, 165001, 165002, 165003, 165004, 165005, 174000, 174001, 174002, 174003, 174004, 174005] φ ψ3 := fr_tr (fr_rf) hF3 (by decide)
      have e3 := e1b.trans (bnv_e hE3)
      exact ih ψ3 (jm_st1 L 3 (0, l3 + 1)) l1 l2 (l3 + 1) (get_st1 g0 (by decide) (fun q => absurd q.1 (by decide))) (get_st1 g1 (by decide) (fun q => absurd q.1 (by decide))) (get_st1 g2 (by decide) (fun q => tg0 q.2)) get_st1e hI3 (by omega) (by omega) (by omega) (by omega) (by omega) (by omega) (fun rr χ hIχ hFχ hpχ hEχ => hQ rr χ hIχ (fr_tr hG3 hFχ (by decide)) hpχ (e3.trans hEχ))
theorem sf_89_0_v {sc : List Int} {d : Nat} {φ : hf_F} {x : Nat} {Q : Option jm_V → hf_F → Nat → Prop} {v1 : Int}
    (H : hi v1 ∧ hi 1 ∧ (v1 < 1 → Q (some (0, (-1 : Int))) φ x) ∧ (¬ v1 < 1 → hi v1 ∧ hi 60 ∧ (v1 ≤ 60 → hw sc (d + 2) 90 0 [(0, (2, 17))] [] φ x (fun r ψ4 y4 => y4 = x ∧ φ = ψ4 ∧ (∃ z4 : Int, r = some (0, z4) ∧ (((jm_n (if jm_n z4 < jm_n v1 then z4 else v1)) ≤ 0 → hw sc (d + 3) 89 48 (jm_st1 (jm_st1 [(0, (2, 0)), (1, (0, v1))] 2 (0, if jm_n z4 < jm_n v1 then z4 else v1)) 3 (0, 0)) [] φ x Q) ∧ (¬ (jm_n (if jm_n z4 < jm_n v1 then z4 else v1)) ≤ 0 → hw sc (d + 2) 80 0 [(0, (2, 108)), (1, (2, 17))] [] φ x (fun r ψ8 y8 => y8 = x ∧ (r = none ∧ (hw sc (d + 3) 89 48 (jm_st1 (jm_st1 [(0, (2, 0)), (1, (0, v1))] 2 (0, if jm_n z4 < jm_n v1 then z4 else v1)) 3 (0, 0)) [] ψ8 x Q)))))))) ∧ (¬ v1 ≤ 60 → Q (some (0, (-1 : Int))) φ x))) :
    hw sc (d + 3) 89 0 [(0, (2, 0)), (1, (0, v1))] [] φ x Q := by
  refine hw_ld (b := 1) (e := 0) (by decide +kernel) rfl ?_
  refine hw_k (c := 1) (b := 0) (e := 1) (by decide +kernel) ?_
  obtain ⟨hz1, hy1, ht1, hf1⟩ := H
  refine hw_if2 (a0 := 0) (b := 2) (e := 11) (by decide +kernel) hz1 hy1 (fun q => ?_) (fun q => ?_)
  · have H := ht1 q
    refine hw_k (c := (-1 : Int)) (b := 0) (e := 1) (by decide +kernel) ?_
    exact hw_ret (a0 := 0) (e := 0) (by decide +kernel) (Or.inl rfl) H
  · have H := hf1 q
    refine hw_ld (b := 1) (e := 0) (by decide +kernel) rfl ?_
    refine hw_k (c := 60) (b := 1) (e := 2) (by decide +kernel) ?_
    obtain ⟨hz3, hy3, ht3, hf3⟩ := H
    refine hw_if2 (a0 := 0) (b := 5) (e := 13) (by decide +kernel) hz3 hy3 (fun q => ?_) (fun q => ?_)
    · have H := ht3 q
      refine hw_ld (b := 1) (e := 0) (by decide +kernel) rfl ?_
      refine hw_ald (b := 0) (e := 0) (by decide +kernel) rfl (by decide) ?_
      refine hr_gr (w := 4) (b := 0) (e := 1) 0 rfl (by decide +kernel) ?_
      refine hr_gr (w := 17) (b := 2) (e := 1) 4 rfl (by decide +kernel) ?_
      refine hr_call (a0 := 14) (b := 90) (e := 1) (nl := 1) (As := []) (R := [(0, v1)]) 17 rfl (by decide +kernel) rfl rfl (Nat.le_of_ble_eq_true rfl) (Nat.le_of_ble_eq_true rfl) ?_
      refine hw_mono H ?_
      rintro r ψ4 y4 ⟨hyx, hψx, z4, hr, H⟩
      subst hyx
      subst hψx
      subst hr
      refine ⟨hne0, ?_⟩
      show hw sc (d + 3) 89 24 [(0, (2, 0)), (1, (0, v1))] [(0, z4), (0, v1)] φ y4 Q
      refine hw_minn (a0 := 0) (e := 0) (by decide +kernel) (Nat.le_of_ble_eq_true rfl) ?_
      refine hw_st (L' := (jm_st1 [(0, (2, 0)), (1, (0, v1))] 2 (0, if jm_n z4 < jm_n v1 then z4 else v1))) (b := 2) (e := 0) (by decide +kernel) rfl ?_
      refine hw_ld (b := 2) (e := 0) (by decide +kernel) get_st1e ?_
      obtain ⟨ht7, hf7⟩ := H
      refine hw_ifn (a0 := 0) (b := 5) (e := 46) (by decide +kernel) (fun q => ?_) (fun q => ?_)
      · have H := ht7 q
        refine hw_k (c := 0) (b := 0) (e := 1) (by decide +kernel) ?_
        refine hw_st (L' := (jm_st1 (jm_st1 [(0, (2, 0)), (1, (0, v1))] 2 (0, if jm_n z4 < jm_n v1 then z4 else v1)) 3 (0, 0))) (b := 3) (e := 0) (by decide +kernel) rfl ?_
        exact H
      · have H := hf7 q
        refine hw_ald (b := 0) (e := 0) (by decide +kernel) (get_st1 rfl (by decide) (fun q => absurd q.1 (by decide))) (by decide) ?_
        refine hr_gr (w := 108) (b := 0) (e := 5) 0 rfl (by decide +kernel) ?_
        refine hw_ald (b := 0) (e := 0) (by decide +kernel) (get_st1 rfl (by decide) (fun q => absurd q.1 (by decide))) (by decide) ?_
        refine hr_gr (w := 4) (b := 0) (e := 1) 0 rfl (by decide +kernel) ?_
        refine hr_gr (w := 17) (b := 2) (e := 1) 4 rfl (by decide +kernel) ?_
        refine hr_call (a0 := 16) (b := 80) (e := 2) (nl := 2) (As := [(2, 17)]) (R := []) 108 rfl (by decide +kernel) rfl rfl (Nat.le_of_ble_eq_true rfl) (Nat.le_of_ble_eq_true rfl) ?_
        refine hw_mono H ?_
        rintro r ψ8 y8 ⟨hyx, hr, H⟩
        subst hyx
        subst hr
        refine ⟨hnen, ?_⟩
        show hw sc (d + 3) 89 46 (jm_st1 [(0, (2, 0)), (1, (0, v1))] 2 (0, if jm_n z4 < jm_n v1 then z4 else v1)) [] ψ8 y8 Q
        refine hw_k (c := 0) (b := 0) (e := 1) (by decide +kernel) ?_
        refine hw_st (L' := (jm_st1 (jm_st1 [(0, (2, 0)), (1, (0, v1))] 2 (0, if jm_n z4 < jm_n v1 then z4 else v1)) 3 (0, 0))) (b := 3) (e := 0) (by decide +kernel) rfl ?_
        exact H
    · have H := hf3 q
      refine hw_k (c := (-1 : Int)) (b := 0) (e := 1) (by decide +kernel) ?_
      exact hw_ret (a0 := 0) (e := 0) (by decide +kernel) (Or.inl rfl) H
theorem sf_89_0 {sc : List Int} {d : Nat} {φ : hf_F} {x : Nat} {Q : Option jm_V → hf_F → Nat → Prop} {v1 : Int} (hI : Inv φ) (h1a : (-2147483648 : Int) ≤ v1) (h1b : v1 ≤ 2147483647) (hQ : ∀ (r : Int) (ψ : hf_F), Inv ψ → Fr [18, 23, 24, 25, 109, 111, 112, 113, 114, 115, 116, 117, 118, 120, 121, 122, 123, 124, 125, 126, 127, 129, 130, 131, 132, 133, 134, 135, 136, 138, 139, 140, 141, 142, 143, 144, 145, 147, 148, 149, 150, 151, 152, 153, 154, 156, 157, 158, 159, 160, 161, 162, 163, 165, 166, 167, 168, 169, 170, 171, 172, 174, 175, 176, 177, 178, 179, 180, 181, 18000, 18001, 18002, 18003, 18004, 109001, 111000, 111001, 111002, 111003, 111004, 111005, 120000, 120001, 120002, 120003, 120004, 120005, 129000, 129001, 129002, 129003, 129004, 129005, 138000, 138001, 138002, 138003, 138004, 138005, 147000, 147001, 147002, 147003, 147004, 147005, 156000, 156001, 156002, 156003, 156004, 156005, 165000, 165001, 165002, 165003, 165004, 165005, 174000, 174001, 174002, 174003, 174004, 174005] φ ψ → True → F_RideLaws_ticks_0 φ v1 = (r, ψ) → Q (some (0, r)) ψ x) : hw sc (d + 3) 89 0 [(0, (2, 0)), (1, (0, v1))] [] φ x Q := by
  apply sf_89_0_v
  have e0 : F_RideLaws_ticks_0 φ v1 = _ := rfl
  refine ⟨by unfold hi; omega, by unfold hi; omega, fun q1 => ?_, fun q1 => ?_⟩
  · skip
    have e1a := e0.trans (if_pos q1)
    exact hQ (-1 : Int) φ hI (fr_rf) trivial e1a
  · skip
    have e1b := e0.trans (if_neg q1)
    refine ⟨by unfold hi; omega, by unfold hi; omega, fun q3 => ?_, fun q3 => ?_⟩
    · skip
      have e3a := e1b.trans (if_pos q3)
      refine sf_90_17 (φ := φ) hI  (fun z4 hp4 hE4 => ⟨rfl, rfl, z4, rfl, ?_⟩)
      have e4 := e3a.trans (bnp_e hE4)
      have f1 := hr_n z4
      have f2 := hr_n v1
      have f3 := hi_n (z := v1) (by unfold hi; omega)
      have f_m5 := hr_minn v1 z4
      have f4 := hr_n (if jm_n z4 < jm_n v1 then z4 else v1)
      refine ⟨fun q7 => ?_, fun q7 => ?_⟩
      · skip
        have e7a := e4.trans (if_pos q7)
        exact sf_89_0_l48 ((60 - 0 : Int).toNat + 1) φ (jm_st1 (jm_st1 [(0, (2, 0)), (1, (0, v1))] 2 (0, if jm_n z4 < jm_n v1 then z4 else v1)) 3 (0, 0)) v1 (if jm_n z4 < jm_n v1 then z4 else v1) 0 (get_st1 (get_st1 rfl (by decide) (fun q => absurd q.1 (by decide))) (by decide) (fun q => absurd q.1 (by decide))) (get_st1 (get_st1 rfl (by decide) (fun q => tg0 q.2)) (by decide) (fun q => absurd q.1 (by decide))) (get_st1 get_st1e (by decide) (fun q => tg0 q.2)) get_st1e hI (by omega) (by omega) (by omega) (by omega) (by omega) (by omega) (fun rr χ hIχ hFχ hpχ hEχ => hQ rr χ hIχ (fr_tr (fr_rf) hFχ (by decide)) hpχ (e7a.trans hEχ))
      · skip
        have e7b := e4.trans (if_neg q7)
        refine sf_80_108_17 (φ := φ) hI  (fun ψ8 hI8 hF8 hE8 => ⟨rfl, rfl, ?_⟩)
        have hG8 : Fr [18, 23, 24, 25, 109, 111, 112, 113, 114, 115, 116, 117, 118, 120, 121, 122, 123, 124, 125, 126, 127, 129, 130, 131, 132, 133, 134, 135, 136, 138, 139, 140, 141, 142, 143, 144, 145, 147, 148, 149, 150, 151, 152, 153, 154, 156, 157, 158, 159, 160, 161, 162, 163, 165, 166, 167, 168, 169, 170, 171, 172, 174, 175, 176, 177, 178, 179, 180, 181, 18000, 18001, 18002, 18003, 18004, 109001, 111000, 111001, 111002, 111003, 111004, 111005, 120000, 120001, 120002, 120003, 120004, 120005, 129000, 129001, 129002, 129003, 129004, 129005, 138000, 138001, 138002, 138003, 138004, 138005, 147000, 147001, 147002, 147003, 147004, 147005, 156000, 156001, 156002, 156003, 156004, 156005, 165000, 165001, 165002, 165003, 165004, 165005, 174000, 174001, 174002, 174003, 174004, 174005] φ ψ8 := fr_tr (fr_rf) hF8 (by decide)
        have e8 := e7b.trans (bnv_e hE8)
        exact sf_89_0_l48 ((60 - 0 : Int).toNat + 1) ψ8 (jm_st1 (jm_st1 [(0, (2, 0)), (1, (0, v1))] 2 (0, if jm_n z4 < jm_n v1 then z4 else v1)) 3 (0, 0)) v1 (if jm_n z4 < jm_n v1 then z4 else v1) 0 (get_st1 (get_st1 rfl (by decide) (fun q => absurd q.1 (by decide))) (by decide) (fun q => absurd q.1 (by decide))) (get_st1 (get_st1 rfl (by decide) (fun q => tg0 q.2)) (by decide) (fun q => absurd q.1 (by decide))) (get_st1 get_st1e (by decide) (fun q => tg0 q.2)) get_st1e hI8 (by omega) (by omega) (by omega) (by omega) (by omega) (by omega) (fun rr χ hIχ hFχ hpχ hEχ => hQ rr χ hIχ (fr_tr hG8 hFχ (by decide)) hpχ (e8.trans hEχ))
    · skip
      have e3b := e1b.trans (if_neg q3)
      exact hQ (-1 : Int) φ hI (fr_rf) trivial e3b
