theorem sf_70_0_v {sc : List Int} {d : Nat} {φ : hf_F} {x : Nat} {Q : Option jm_V → hf_F → Nat → Prop} {v1 v2 : Int}
    (H : hi v2 ∧ (v2 < 0 → Q (some (0, 0)) φ x) ∧ (¬ v2 < 0 → 0 ≤ v1 ∧ v1 < 5 ∧ (hi v2 ∧ hi (φ 6 ((v1).toNat)) ∧ ((φ 6 ((v1).toNat)) ≤ v2 → Q (some (0, 0)) φ x) ∧ (¬ (φ 6 ((v1).toNat)) ≤ v2 → Q (some (0, 1)) φ x)))) :
    hw sc d 70 0 [(0, (2, 0)), (1, (0, v1)), (2, (0, v2))] [] φ x Q := by
  refine hw_ld (b := 2) (e := 0) (by decide +kernel) rfl ?_
  obtain ⟨hz1, ht1, hf1⟩ := H
  refine hw_if (a0 := 0) (b := 2) (e := 24) (by decide +kernel) hz1 (fun q => ?_) (fun q => ?_)
  · have H := ht1 q
    refine hw_k (c := 0) (b := 0) (e := 1) (by decide +kernel) ?_
    exact hw_ret (a0 := 0) (e := 1) (by decide +kernel) (Or.inr ⟨rfl, by decide⟩) H
  · have H := hf1 q
    refine hw_ld (b := 2) (e := 0) (by decide +kernel) rfl ?_
    refine hw_ald (b := 0) (e := 0) (by decide +kernel) rfl (by decide) ?_
    refine hr_gr (w := 4) (b := 0) (e := 1) 0 rfl (by decide +kernel) ?_
    refine hr_gr (w := 5) (b := 2) (e := 0) 4 rfl (by decide +kernel) ?_
    refine hr_gr (w := 6) (b := 3) (e := 0) 5 rfl (by decide +kernel) ?_
    refine hw_ld (b := 1) (e := 0) (by decide +kernel) rfl ?_
    obtain ⟨hl3, hu3, H⟩ := H
    refine hr_al (b := 0) (a0 := 0) (e := 0) (n := 5) (w := φ 6 ((v1).toNat)) 6 rfl (by decide +kernel) (by decide) hl3 hu3 rfl ?_
    obtain ⟨hz4, hy4, ht4, hf4⟩ := H
    refine hw_if2 (a0 := 0) (b := 3) (e := 24) (by decide +kernel) hz4 hy4 (fun q => ?_) (fun q => ?_)
    · have H := ht4 q
      refine hw_k (c := 0) (b := 0) (e := 1) (by decide +kernel) ?_
      exact hw_ret (a0 := 0) (e := 1) (by decide +kernel) (Or.inr ⟨rfl, by decide⟩) H
    · have H := hf4 q
      refine hw_k (c := 1) (b := 0) (e := 1) (by decide +kernel) ?_
      refine hw_goto (a0 := 0) (b := 0) (e := 25) (by decide +kernel) ?_
      exact hw_ret (a0 := 0) (e := 1) (by decide +kernel) (Or.inr ⟨rfl, by decide⟩) H
theorem sf_70_0 {sc : List Int} {d : Nat} {φ : hf_F} {x : Nat} {Q : Option jm_V → hf_F → Nat → Prop} {v1 v2 : Int} (hI : Inv φ) (h1a : 0 ≤ v1) (h1b : v1 ≤ 4) (h2a : (-2147483648) ≤ v2) (h2b : v2 ≤ 2147483647) (hQ : ∀ (r : Int) (ψ : hf_F), Inv ψ → Fr [] φ ψ → 0 ≤ r ∧ r ≤ 1 → Q (some (0, r)) ψ x) : hw sc d 70 0 [(0, (2, 0)), (1, (0, v1)), (2, (0, v2))] [] φ x Q := by
  apply sf_70_0_v
  refine ⟨by unfold hi; omega, fun q1 => ?_, fun q1 => ?_⟩
  · skip
    exact hQ 0 φ hI (fr_rf) ⟨by omega, by omega⟩
  · skip
    refine ⟨by omega, by omega, ?_⟩
    have f1 := iv_arh (a := 6) (s := 0) (t := 5) (lo := 0) (u := 8) (z := v1) hI (by decide +kernel) (by omega) (by omega)
    refine ⟨by unfold hi; omega, by unfold hi; omega, fun q4 => ?_, fun q4 => ?_⟩
    · skip
      exact hQ 0 φ hI (fr_rf) ⟨by omega, by omega⟩
    · skip
      exact hQ 1 φ hI (fr_rf) ⟨by omega, by omega⟩
theorem sf_23_0_v {sc : List Int} {d : Nat} {φ : hf_F} {x : Nat} {Q : Option jm_V → hf_F → Nat → Prop} {v1 : Int}
    (H : hi v1 ∧ (v1 < 0 → Q (some (0, 0)) φ x) ∧ (¬ v1 < 0 → hi v1 ∧ hi (φ 1 2) ∧ (v1 ≤ (φ 1 2) → Q (some (0, 1)) (hf_up φ 1 2 v1) x) ∧ (¬ v1 ≤ (φ 1 2) → Q (some (0, 0)) φ x))) :
    hw sc d 23 0 [(0, (2, 0)), (1, (0, v1))] [] φ x Q := by
  refine hw_ld (b := 1) (e := 0) (by decide +kernel) rfl ?_
  obtain ⟨hz1, ht1, hf1⟩ := H
  refine hw_if (a0 := 0) (b := 2) (e := 15) (by decide +kernel) hz1 (fun q => ?_) (fun q => ?_)
  · have H := ht1 q
    refine hw_k (c := 0) (b := 0) (e := 1) (by decide +kernel) ?_
    exact hw_ret (a0 := 0) (e := 1) (by decide +kernel) (Or.inr ⟨rfl, by decide⟩) H
  · have H := hf1 q
    refine hw_ld (b := 1) (e := 0) (by decide +kernel) rfl ?_
    refine hw_ald (b := 0) (e := 0) (by decide +kernel) rfl (by decide) ?_
    refine hr_gr (w := 1) (b := 0) (e := 0) 0 rfl (by decide +kernel) ?_
    refine hr_gi (w := φ 1 2) (b := 1) (e := 2) 1 rfl (by decide +kernel) rfl ?_
    obtain ⟨hz3, hy3, ht3, hf3⟩ := H
    refine hw_if2 (a0 := 0) (b := 5) (e := 17) (by decide +kernel) hz3 hy3 (fun q => ?_) (fun q => ?_)
    · have H := ht3 q
      refine hw_ald (b := 0) (e := 0) (by decide +kernel) rfl (by decide) ?_
      refine hr_gr (w := 1) (b := 0) (e := 0) 0 rfl (by decide +kernel) ?_
      refine hw_ld (b := 1) (e := 0) (by decide +kernel) rfl ?_
      refine hr_pi (b := 1) (e := 2) 1 rfl (by decide +kernel) ?_
      refine hw_k (c := 1) (b := 0) (e := 1) (by decide +kernel) ?_
      exact hw_ret (a0 := 0) (e := 1) (by decide +kernel) (Or.inr ⟨rfl, by decide⟩) H
    · have H := hf3 q
      refine hw_k (c := 0) (b := 0) (e := 1) (by decide +kernel) ?_
      exact hw_ret (a0 := 0) (e := 1) (by decide +kernel) (Or.inr ⟨rfl, by decide⟩) H
theorem sf_23_0 {sc : List Int} {d : Nat} {φ : hf_F} {x : Nat} {Q : Option jm_V → hf_F → Nat → Prop} {v1 : Int} (hI : Inv φ) (h1a : (-2147483648) ≤ v1) (h1b : v1 ≤ 2147483647) (hQ : ∀ (r : Int) (ψ : hf_F), Inv ψ → Fr [1] φ ψ → 0 ≤ r ∧ r ≤ 1 → Q (some (0, r)) ψ x) : hw sc d 23 0 [(0, (2, 0)), (1, (0, v1))] [] φ x Q := by
  apply sf_23_0_v
  refine ⟨by unfold hi; omega, fun q1 => ?_, fun q1 => ?_⟩
  · skip
    exact hQ 0 φ hI (fr_rf) ⟨by omega, by omega⟩
  · skip
    have f1 := iv_at (a := 1) (k := 2) (lo := 0) (u := 940) hI (by decide +kernel)
    refine ⟨by unfold hi; omega, by unfold hi; omega, fun q3 => ?_, fun q3 => ?_⟩
    · skip
      have i2 : Inv (hf_up φ 1 2 v1) := iv_up (lo := 0) (u := 940) hI (by decide +kernel) (by omega) (by omega)
      have r2 : Fr [1] φ (hf_up φ 1 2 v1) := fr_up (fr_rf) (by decide)
      exact hQ 1 (hf_up φ 1 2 v1) i2 r2 ⟨by omega, by omega⟩
    · skip
      exact hQ 0 φ hI (fr_rf) ⟨by omega, by omega⟩
theorem sf_22_1_v3 {sc : List Int} {d : Nat} {φ : hf_F} {x : Nat} {Q : Option jm_V → hf_F → Nat → Prop} {l2 l1 : Int}
    (H : hi l2 ∧ (l2 < 0 → Q none φ x) ∧ (¬ l2 < 0 → hi (φ 1 2) ∧ hi 940 ∧ (940 ≤ (φ 1 2) → hw sc d 22 3 [(2, (0, l2 + (-8))), (0, (2, 1)), (1, (0, l1))] [] φ x Q) ∧ (¬ 940 ≤ (φ 1 2) → 0 ≤ (φ 1 2) ∧ (φ 1 2) < 940 ∧ (hw sc d 22 3 [(2, (0, l2 + (-8))), (0, (2, 1)), (1, (0, l1))] [] (hf_up (hf_up φ 2 ((φ 1 2).toNat) (jm_b (hb_i2b (hb_ushr l1 l2)))) 1 2 ((φ 1 2) + 1)) x Q)))) :
    hw sc d 22 3 [(2, (0, l2)), (0, (2, 1)), (1, (0, l1))] [] φ x Q := by
  refine hw_ld (b := 2) (e := 0) (by decide +kernel) rfl ?_
  obtain ⟨hz1, ht1, hf1⟩ := H
  refine hw_if (a0 := 0) (b := 2) (e := 46) (by decide +kernel) hz1 (fun q => ?_) (fun q => ?_)
  · have H := ht1 q
    exact hw_vret (a0 := 0) (e := 0) (by decide +kernel) H
  · have H := hf1 q
    refine hw_ald (b := 0) (e := 0) (by decide +kernel) rfl (by decide) ?_
    refine hr_gi (w := φ 1 2) (b := 1) (e := 2) 1 rfl (by decide +kernel) rfl ?_
    refine hw_k (c := 940) (b := 2) (e := 3) (by decide +kernel) ?_
    obtain ⟨hz3, hy3, ht3, hf3⟩ := H
    refine hw_if2 (a0 := 0) (b := 3) (e := 40) (by decide +kernel) hz3 hy3 (fun q => ?_) (fun q => ?_)
    · have H := ht3 q
      refine hw_inc (L' := [(2, (0, l2 + (-8))), (0, (2, 1)), (1, (0, l1))]) (c := (-8)) (b := 2) (e := 0) (by decide +kernel) rfl rfl ?_
      refine hw_goto (a0 := 0) (b := 0) (e := 3) (by decide +kernel) ?_
      exact H
    · have H := hf3 q
      refine hw_ald (b := 0) (e := 0) (by decide +kernel) rfl (by decide) ?_
      refine hr_gr (w := 2) (b := 1) (e := 0) 1 rfl (by decide +kernel) ?_
      refine hw_ald (b := 0) (e := 0) (by decide +kernel) rfl (by decide) ?_
      refine hr_gi (w := φ 1 2) (b := 1) (e := 2) 1 rfl (by decide +kernel) rfl ?_
      refine hw_ld (b := 1) (e := 0) (by decide +kernel) rfl ?_
      refine hw_ld (b := 2) (e := 0) (by decide +kernel) rfl ?_
      refine hw_bin (w := hb_ushr l1 l2) (a0 := 0) (b := 8) (e := 0) (by decide +kernel) rfl ?_
      refine hw_conv (t' := 0) (w := hb_i2b (hb_ushr l1 l2)) (a0 := 0) (b := 2) (e := 0) (by decide +kernel) rfl ?_
      obtain ⟨hl4, hu4, H⟩ := H
      refine hr_asb (a0 := 0) (e := 4) (n := 940) 2 rfl (by decide +kernel) hl4 hu4 ?_
      refine hw_ald (b := 0) (e := 0) (by decide +kernel) rfl (by decide) ?_
      refine hw_dup (a0 := 0) (e := 0) (by decide +kernel) (by decide) ?_
      refine hr_gi (w := φ 1 2) (b := 1) (e := 2) 1 rfl (by decide +kernel) (hf_up_ne (fun q => absurd q.1 (by decide))) ?_
      refine hw_k (c := 1) (b := 0) (e := 1) (by decide +kernel) ?_
      refine hw_bin (w := (φ 1 2) + 1) (a0 := 0) (b := 0) (e := 0) (by decide +kernel) rfl ?_
      refine hr_pi (b := 1) (e := 2) 1 rfl (by decide +kernel) ?_
      refine hw_inc (L' := [(2, (0, l2 + (-8))), (0, (2, 1)), (1, (0, l1))]) (c := (-8)) (b := 2) (e := 0) (by decide +kernel) rfl rfl ?_
      refine hw_goto (a0 := 0) (b := 0) (e := 3) (by decide +kernel) ?_
      exact H
theorem sf_22_1_l3 {sc : List Int} {d x : Nat} {Q : Option jm_V → hf_F → Nat → Prop} : ∀ (n : Nat) (φ : hf_F) (l2 l1 : Int), Inv φ → l2 + 8 < (n : Int) → (-8) ≤ l2 → l2 ≤ 24 → (∀ ψ : hf_F, Inv ψ → Fr [1, 2] φ ψ → Q none ψ x) → hw sc d 22 3 [(2, (0, l2)), (0, (2, 1)), (1, (0, l1))] [] φ x Q := by
  intro n
  induction n with
  | zero =>
    intro φ l2 l1 hI hM b2a b2b hQ
    exfalso
    omega
  | succ n ih =>
    intro φ l2 l1 hI hM b2a b2b hQ
    apply sf_22_1_v3
    refine ⟨by unfold hi; omega, fun q1 => ?_, fun q1 => ?_⟩
    · skip
      exact hQ φ hI (fr_rf)
    · skip
      have f1 := iv_at (a := 1) (k := 2) (lo := 0) (u := 940) hI (by decide +kernel)
      refine ⟨by unfold hi; omega, by unfold hi; omega, fun q3 => ?_, fun q3 => ?_⟩
      · skip
        exact ih φ (l2 + (-8)) l1 hI (by omega) (by omega) (by omega) (fun χ hIχ hFχ => hQ χ hIχ (fr_tr (fr_rf) hFχ (by decide)))
      · skip
        have f2 := hr_ushr l1 l2
        have f3 := hr_i2b (hb_ushr l1 l2)
        refine ⟨by omega, by omega, ?_⟩
        have f4 := hr_jmb (hb_i2b (hb_ushr l1 l2))
        have i5 : Inv (hf_up φ 2 ((φ 1 2).toNat) (jm_b (hb_i2b (hb_ushr l1 l2)))) := iv_upI (s := 0) (t := 940) (lo := (-128)) (u := 127) (z := φ 1 2) hI (by decide +kernel) (by omega) (by omega) (by omega) (by omega)
        have r5 : Fr [1, 2] φ (hf_up φ 2 ((φ 1 2).toNat) (jm_b (hb_i2b (hb_ushr l1 l2)))) := fr_up (fr_rf) (by decide)
        have i6 : Inv (hf_up (hf_up φ 2 ((φ 1 2).toNat) (jm_b (hb_i2b (hb_ushr l1 l2)))) 1 2 ((φ 1 2) + 1)) := iv_up (lo := 0) (u := 940) i5 (by decide +kernel) (by omega) (by omega)
        have r6 : Fr [1, 2] φ (hf_up (hf_up φ 2 ((φ 1 2).toNat) (jm_b (hb_i2b (hb_ushr l1 l2)))) 1 2 ((φ 1 2) + 1)) := fr_up r5 (by decide)
        exact ih (hf_up (hf_up φ 2 ((φ 1 2).toNat) (jm_b (hb_i2b (hb_ushr l1 l2)))) 1 2 ((φ 1 2) + 1)) (l2 + (-8)) l1 i6 (by omega) (by omega) (by omega) (fun χ hIχ hFχ => hQ χ hIχ (fr_tr r6 hFχ (by decide)))
theorem sf_22_1_v {sc : List Int} {d : Nat} {φ : hf_F} {x : Nat} {Q : Option jm_V → hf_F → Nat → Prop} {v1 : Int}
    (H : hw sc d 22 3 [(2, (0, 24)), (0, (2, 1)), (1, (0, v1))] [] φ x Q) :
    hw sc d 22 0 [(0, (2, 1)), (1, (0, v1))] [] φ x Q := by
  refine hw_k (c := 24) (b := 1) (e := 2) (by decide +kernel) ?_
  refine hw_st (L' := [(2, (0, 24)), (0, (2, 1)), (1, (0, v1))]) (b := 2) (e := 0) (by decide +kernel) rfl ?_
  exact H
theorem sf_22_1 {sc : List Int} {d : Nat} {φ : hf_F} {x : Nat} {Q : Option jm_V → hf_F → Nat → Prop} {v1 : Int} (hI : Inv φ) (h1a : (-2147483648) ≤ v1) (h1b : v1 ≤ 2147483647) (hQ : ∀ ψ : hf_F, Inv ψ → Fr [1, 2] φ ψ → Q none ψ x) : hw sc d 22 0 [(0, (2, 1)), (1, (0, v1))] [] φ x Q := by
  apply sf_22_1_v
  exact sf_22_1_l3 ((24 + 8).toNat + 1) φ 24 v1 hI (by omega) (by omega) (by omega) (fun χ hIχ hFχ => hQ χ hIχ (fr_tr (fr_rf) hFχ (by decide)))
theorem sf_21_0_v {sc : List Int} {d : Nat} {φ : hf_F} {x : Nat} {Q : Option jm_V → hf_F → Nat → Prop} {v1 v2 v3 v4 v5 : Int}
    (H : hi ((φ 1 2) + 20) ∧ hi 940 ∧ (((φ 1 2) + 20) ≤ 940 → hw sc d 22 0 [(0, (2, 1)), (1, (0, v1))] [] φ x (fun r ψ2 y2 => y2 = x ∧ (r = none ∧ (hw sc d 22 0 [(0, (2, 1)), (1, (0, v2))] [] ψ2 x (fun r ψ3 y3 => y3 = x ∧ (r = none ∧ (hw sc d 22 0 [(0, (2, 1)), (1, (0, v3))] [] ψ3 x (fun r ψ4 y4 => y4 = x ∧ (r = none ∧ (hw sc d 22 0 [(0, (2, 1)), (1, (0, v4))] [] ψ4 x (fun r ψ5 y5 => y5 = x ∧ (r = none ∧ (hw sc d 22 0 [(0, (2, 1)), (1, (0, v5))] [] ψ5 x (fun r ψ6 y6 => y6 = x ∧ (r = none ∧ (Q (some (0, ψ6 1 2)) ψ6 x)))))))))))))))) ∧ (¬ ((φ 1 2) + 20) ≤ 940 → Q (some (0, (-1))) φ x)) :
    hw sc (d + 1) 21 0 [(0, (2, 0)), (1, (0, v1)), (2, (0, v2)), (3, (0, v3)), (4, (0, v4)), (5, (0, v5))] [] φ x Q := by
  refine hw_ald (b := 0) (e := 0) (by decide +kernel) rfl (by decide) ?_
  refine hr_gr (w := 1) (b := 0) (e := 0) 0 rfl (by decide +kernel) ?_
  refine hr_gi (w := φ 1 2) (b := 1) (e := 2) 1 rfl (by decide +kernel) rfl ?_
  refine hw_k (c := 20) (b := 1) (e := 2) (by decide +kernel) ?_
  refine hw_bin (w := (φ 1 2) + 20) (a0 := 0) (b := 0) (e := 0) (by decide +kernel) rfl ?_
  refine hw_k (c := 940) (b := 2) (e := 3) (by decide +kernel) ?_
  obtain ⟨hz1, hy1, ht1, hf1⟩ := H
  refine hw_if2 (a0 := 0) (b := 5) (e := 18) (by decide +kernel) hz1 hy1 (fun q => ?_) (fun q => ?_)
  · have H := ht1 q
    refine hw_ald (b := 0) (e := 0) (by decide +kernel) rfl (by decide) ?_
    refine hr_gr (w := 1) (b := 0) (e := 0) 0 rfl (by decide +kernel) ?_
    refine hw_ld (b := 1) (e := 0) (by decide +kernel) rfl ?_
    refine hr_call (a0 := 11) (b := 22) (e := 2) (nl := 3) (As := [(0, v1)]) (R := []) 1 rfl (by decide +kernel) rfl rfl (Nat.le_of_ble_eq_true rfl) (Nat.le_of_ble_eq_true rfl) ?_
    refine hw_mono H ?_
    rintro r ψ2 y2 ⟨hyx, hr, H⟩
    subst hyx
    subst hr
    refine ⟨hnen, ?_⟩
    show hw sc (d + 1) 21 26 [(0, (2, 0)), (1, (0, v1)), (2, (0, v2)), (3, (0, v3)), (4, (0, v4)), (5, (0, v5))] [] ψ2 y2 Q
    refine hw_ald (b := 0) (e := 0) (by decide +kernel) rfl (by decide) ?_
    refine hr_gr (w := 1) (b := 0) (e := 0) 0 rfl (by decide +kernel) ?_
    refine hw_ld (b := 2) (e := 0) (by decide +kernel) rfl ?_
    refine hr_call (a0 := 11) (b := 22) (e := 2) (nl := 3) (As := [(0, v2)]) (R := []) 1 rfl (by decide +kernel) rfl rfl (Nat.le_of_ble_eq_true rfl) (Nat.le_of_ble_eq_true rfl) ?_
    refine hw_mono H ?_
    rintro r ψ3 y3 ⟨hyx, hr, H⟩
    subst hyx
    subst hr
    refine ⟨hnen, ?_⟩
    show hw sc (d + 1) 21 34 [(0, (2, 0)), (1, (0, v1)), (2, (0, v2)), (3, (0, v3)), (4, (0, v4)), (5, (0, v5))] [] ψ3 y3 Q
    refine hw_ald (b := 0) (e := 0) (by decide +kernel) rfl (by decide) ?_
    refine hr_gr (w := 1) (b := 0) (e := 0) 0 rfl (by decide +kernel) ?_
    refine hw_ld (b := 3) (e := 0) (by decide +kernel) rfl ?_
    refine hr_call (a0 := 11) (b := 22) (e := 2) (nl := 3) (As := [(0, v3)]) (R := []) 1 rfl (by decide +kernel) rfl rfl (Nat.le_of_ble_eq_true rfl) (Nat.le_of_ble_eq_true rfl) ?_
    refine hw_mono H ?_
    rintro r ψ4 y4 ⟨hyx, hr, H⟩
    subst hyx
    subst hr
    refine ⟨hnen, ?_⟩
    show hw sc (d + 1) 21 42 [(0, (2, 0)), (1, (0, v1)), (2, (0, v2)), (3, (0, v3)), (4, (0, v4)), (5, (0, v5))] [] ψ4 y4 Q
    refine hw_ald (b := 0) (e := 0) (by decide +kernel) rfl (by decide) ?_
    refine hr_gr (w := 1) (b := 0) (e := 0) 0 rfl (by decide +kernel) ?_
    refine hw_ld (b := 4) (e := 1) (by decide +kernel) rfl ?_
    refine hr_call (a0 := 11) (b := 22) (e := 2) (nl := 3) (As := [(0, v4)]) (R := []) 1 rfl (by decide +kernel) rfl rfl (Nat.le_of_ble_eq_true rfl) (Nat.le_of_ble_eq_true rfl) ?_
    refine hw_mono H ?_
    rintro r ψ5 y5 ⟨hyx, hr, H⟩
    subst hyx
    subst hr
    refine ⟨hnen, ?_⟩
    show hw sc (d + 1) 21 51 [(0, (2, 0)), (1, (0, v1)), (2, (0, v2)), (3, (0, v3)), (4, (0, v4)), (5, (0, v5))] [] ψ5 y5 Q
    refine hw_ald (b := 0) (e := 0) (by decide +kernel) rfl (by decide) ?_
    refine hr_gr (w := 1) (b := 0) (e := 0) 0 rfl (by decide +kernel) ?_
    refine hw_ld (b := 5) (e := 1) (by decide +kernel) rfl ?_
    refine hr_call (a0 := 11) (b := 22) (e := 2) (nl := 3) (As := [(0, v5)]) (R := []) 1 rfl (by decide +kernel) rfl rfl (Nat.le_of_ble_eq_true rfl) (Nat.le_of_ble_eq_true rfl) ?_
    refine hw_mono H ?_
    rintro r ψ6 y6 ⟨hyx, hr, H⟩
    subst hyx
    subst hr
    refine ⟨hnen, ?_⟩
    show hw sc (d + 1) 21 60 [(0, (2, 0)), (1, (0, v1)), (2, (0, v2)), (3, (0, v3)), (4, (0, v4)), (5, (0, v5))] [] ψ6 y6 Q
    refine hw_ald (b := 0) (e := 0) (by decide +kernel) rfl (by decide) ?_
    refine hr_gr (w := 1) (b := 0) (e := 0) 0 rfl (by decide +kernel) ?_
    refine hr_gi (w := ψ6 1 2) (b := 1) (e := 2) 1 rfl (by decide +kernel) rfl ?_
    exact hw_ret (a0 := 0) (e := 0) (by decide +kernel) (Or.inl rfl) H
  · have H := hf1 q
    refine hw_k (c := (-1)) (b := 0) (e := 1) (by decide +kernel) ?_
    exact hw_ret (a0 := 0) (e := 0) (by decide +kernel) (Or.inl rfl) H
theorem sf_21_0 {sc : List Int} {d : Nat} {φ : hf_F} {x : Nat} {Q : Option jm_V → hf_F → Nat → Prop} {v1 v2 v3 v4 v5 : Int} (hI : Inv φ) (h1a : (-2147483648) ≤ v1) (h1b : v1 ≤ 2147483647) (h2a : (-2147483648) ≤ v2) (h2b : v2 ≤ 2147483647) (h3a : (-2147483648) ≤ v3) (h3b : v3 ≤ 2147483647) (h4a : (-2147483648) ≤ v4) (h4b : v4 ≤ 2147483647) (h5a : (-2147483648) ≤ v5) (h5b : v5 ≤ 2147483647) (hQ : ∀ (r : Int) (ψ : hf_F), Inv ψ → Fr [1, 2] φ ψ → (-2147483648) ≤ r ∧ r ≤ 2147483647 → Q (some (0, r)) ψ x) : hw sc (d + 1) 21 0 [(0, (2, 0)), (1, (0, v1)), (2, (0, v2)), (3, (0, v3)), (4, (0, v4)), (5, (0, v5))] [] φ x Q := by
  apply sf_21_0_v
  have f1 := iv_at (a := 1) (k := 2) (lo := 0) (u := 940) hI (by decide +kernel)
  refine ⟨by unfold hi; omega, by unfold hi; omega, fun q1 => ?_, fun q1 => ?_⟩
  · skip
    refine sf_22_1 (φ := φ) hI (by omega) (by omega) (fun ψ2 hI2 hF2 => ⟨rfl, rfl, ?_⟩)
    have hG2 : Fr [1, 2] φ ψ2 := fr_tr (fr_rf) hF2 (by decide)
    refine sf_22_1 (φ := ψ2) hI2 (by omega) (by omega) (fun ψ3 hI3 hF3 => ⟨rfl, rfl, ?_⟩)
    have hG3 : Fr [1, 2] φ ψ3 := fr_tr hG2 hF3 (by decide)
    refine sf_22_1 (φ := ψ3) hI3 (by omega) (by omega) (fun ψ4 hI4 hF4 => ⟨rfl, rfl, ?_⟩)
    have hG4 : Fr [1, 2] φ ψ4 := fr_tr hG3 hF4 (by decide)
    refine sf_22_1 (φ := ψ4) hI4 (by omega) (by omega) (fun ψ5 hI5 hF5 => ⟨rfl, rfl, ?_⟩)
    have hG5 : Fr [1, 2] φ ψ5 := fr_tr hG4 hF5 (by decide)
    refine sf_22_1 (φ := ψ5) hI5 (by omega) (by omega) (fun ψ6 hI6 hF6 => ⟨rfl, rfl, ?_⟩)
    have hG6 : Fr [1, 2] φ ψ6 := fr_tr hG5 hF6 (by decide)
    have f2 := iv_at (a := 1) (k := 2) (lo := 0) (u := 940) hI6 (by decide +kernel)
    exact hQ (ψ6 1 2) ψ6 hI6 hG6 ⟨by omega, by omega⟩
  · skip
    exact hQ (-1) φ hI (fr_rf) ⟨by omega, by omega⟩
theorem sf_30_v {sc : List Int} {d : Nat} {φ : hf_F} {x : Nat} {Q : Option jm_V → hf_F → Nat → Prop} {v0 : Int}
    (H : hi v0 ∧ hi 32 ∧ (v0 = 32 → Q (some (0, 1)) φ x) ∧ (¬ v0 = 32 → hi v0 ∧ hi 10 ∧ (¬ v0 = 10 → Q (some (0, 0)) φ x) ∧ (¬ (¬ v0 = 10) → Q (some (0, 1)) φ x))) :
    hw sc d 30 0 [(0, (0, v0))] [] φ x Q := by
  refine hw_ld (b := 0) (e := 0) (by decide +kernel) rfl ?_
  refine hw_k (c := 32) (b := 1) (e := 2) (by decide +kernel) ?_
  obtain ⟨hz1, hy1, ht1, hf1⟩ := H
  refine hw_if2 (a0 := 0) (b := 0) (e := 12) (by decide +kernel) hz1 hy1 (fun q => ?_) (fun q => ?_)
  · have H := ht1 q
    refine hw_k (c := 1) (b := 0) (e := 1) (by decide +kernel) ?_
    refine hw_goto (a0 := 0) (b := 0) (e := 17) (by decide +kernel) ?_
    exact hw_ret (a0 := 0) (e := 1) (by decide +kernel) (Or.inr ⟨rfl, by decide⟩) H
  · have H := hf1 q
    refine hw_ld (b := 0) (e := 0) (by decide +kernel) rfl ?_
    refine hw_k (c := 10) (b := 1) (e := 2) (by decide +kernel) ?_
    obtain ⟨hz3, hy3, ht3, hf3⟩ := H
    refine hw_if2 (a0 := 0) (b := 1) (e := 16) (by decide +kernel) hz3 hy3 (fun q => ?_) (fun q => ?_)
    · have H := ht3 q
      refine hw_k (c := 0) (b := 0) (e := 1) (by decide +kernel) ?_
      exact hw_ret (a0 := 0) (e := 1) (by decide +kernel) (Or.inr ⟨rfl, by decide⟩) H
    · have H := hf3 q
      refine hw_k (c := 1) (b := 0) (e := 1) (by decide +kernel) ?_
      refine hw_goto (a0 := 0) (b := 0) (e := 17) (by decide +kernel) ?_
      exact hw_ret (a0 := 0) (e := 1) (by decide +kernel) (Or.inr ⟨rfl, by decide⟩) H
theorem sf_30 {sc : List Int} {d : Nat} {φ : hf_F} {x : Nat} {Q : Option jm_V → hf_F → Nat → Prop} {v0 : Int} (hI : Inv φ) (h0a : (-128) ≤ v0) (h0b : v0 ≤ 127) (hQ : ∀ (r : Int) (ψ : hf_F), Inv ψ → Fr [] φ ψ → 0 ≤ r ∧ r ≤ 1 → Q (some (0, r)) ψ x) : hw sc d 30 0 [(0, (0, v0))] [] φ x Q := by
  apply sf_30_v
  refine ⟨by unfold hi; omega, by unfold hi; omega, fun q1 => ?_, fun q1 => ?_⟩
  · skip
    exact hQ 1 φ hI (fr_rf) ⟨by omega, by omega⟩
  · skip
    refine ⟨by unfold hi; omega, by unfold hi; omega, fun q3 => ?_, fun q3 => ?_⟩
    · skip
      exact hQ 0 φ hI (fr_rf) ⟨by omega, by omega⟩
    · skip
      exact hQ 1 φ hI (fr_rf) ⟨by omega, by omega⟩
theorem sf_31_v {sc : List Int} {d : Nat} {φ : hf_F} {x : Nat} {Q : Option jm_V → hf_F → Nat → Prop} {v0 : Int}
    (H : hi v0 ∧ hi 97 ∧ (v0 < 97 → Q (some (0, 0)) φ x) ∧ (¬ v0 < 97 → hi v0 ∧ hi 122 ∧ (122 < v0 → Q (some (0, 0)) φ x) ∧ (¬ 122 < v0 → Q (some (0, 1)) φ x))) :
    hw sc d 31 0 [(0, (0, v0))] [] φ x Q := by
  refine hw_ld (b := 0) (e := 0) (by decide +kernel) rfl ?_
  refine hw_k (c := 97) (b := 1) (e := 2) (by decide +kernel) ?_
  obtain ⟨hz1, hy1, ht1, hf1⟩ := H
  refine hw_if2 (a0 := 0) (b := 2) (e := 16) (by decide +kernel) hz1 hy1 (fun q => ?_) (fun q => ?_)
  · have H := ht1 q
    refine hw_k (c := 0) (b := 0) (e := 1) (by decide +kernel) ?_
    exact hw_ret (a0 := 0) (e := 1) (by decide +kernel) (Or.inr ⟨rfl, by decide⟩) H
  · have H := hf1 q
    refine hw_ld (b := 0) (e := 0) (by decide +kernel) rfl ?_
    refine hw_k (c := 122) (b := 1) (e := 2) (by decide +kernel) ?_
    obtain ⟨hz3, hy3, ht3, hf3⟩ := H
    refine hw_if2 (a0 := 0) (b := 4) (e := 16) (by decide +kernel) hz3 hy3 (fun q => ?_) (fun q => ?_)
    · have H := ht3 q
      refine hw_k (c := 0) (b := 0) (e := 1) (by decide +kernel) ?_
      exact hw_ret (a0 := 0) (e := 1) (by decide +kernel) (Or.inr ⟨rfl, by decide⟩) H
    · have H := hf3 q
      refine hw_k (c := 1) (b := 0) (e := 1) (by decide +kernel) ?_
      refine hw_goto (a0 := 0) (b := 0) (e := 17) (by decide +kernel) ?_
      exact hw_ret (a0 := 0) (e := 1) (by decide +kernel) (Or.inr ⟨rfl, by decide⟩) H
theorem sf_31 {sc : List Int} {d : Nat} {φ : hf_F} {x : Nat} {Q : Option jm_V → hf_F → Nat → Prop} {v0 : Int} (hI : Inv φ) (h0a : (-128) ≤ v0) (h0b : v0 ≤ 127) (hQ : ∀ (r : Int) (ψ : hf_F), Inv ψ → Fr [] φ ψ → 0 ≤ r ∧ r ≤ 1 → Q (some (0, r)) ψ x) : hw sc d 31 0 [(0, (0, v0))] [] φ x Q := by
  apply sf_31_v
  refine ⟨by unfold hi; omega, by unfold hi; omega, fun q1 => ?_, fun q1 => ?_⟩
  · skip
    exact hQ 0 φ hI (fr_rf) ⟨by omega, by omega⟩
  · skip
    refine ⟨by unfold hi; omega, by unfold hi; omega, fun q3 => ?_, fun q3 => ?_⟩
    · skip
      exact hQ 0 φ hI (fr_rf) ⟨by omega, by omega⟩
    · skip
      exact hQ 1 φ hI (fr_rf) ⟨by omega, by omega⟩
theorem sf_32_v {sc : List Int} {d : Nat} {φ : hf_F} {x : Nat} {Q : Option jm_V → hf_F → Nat → Prop} {v0 : Int}
    (H : hi v0 ∧ hi 48 ∧ (v0 < 48 → Q (some (0, 0)) φ x) ∧ (¬ v0 < 48 → hi v0 ∧ hi 57 ∧ (57 < v0 → Q (some (0, 0)) φ x) ∧ (¬ 57 < v0 → Q (some (0, 1)) φ x))) :
    hw sc d 32 0 [(0, (0, v0))] [] φ x Q := by
  refine hw_ld (b := 0) (e := 0) (by decide +kernel) rfl ?_
  refine hw_k (c := 48) (b := 1) (e := 2) (by decide +kernel) ?_
  obtain ⟨hz1, hy1, ht1, hf1⟩ := H
  refine hw_if2 (a0 := 0) (b := 2) (e := 16) (by decide +kernel) hz1 hy1 (fun q => ?_) (fun q => ?_)
  · have H := ht1 q
    refine hw_k (c := 0) (b := 0) (e := 1) (by decide +kernel) ?_
    exact hw_ret (a0 := 0) (e := 1) (by decide +kernel) (Or.inr ⟨rfl, by decide⟩) H
  · have H := hf1 q
    refine hw_ld (b := 0) (e := 0) (by decide +kernel) rfl ?_
    refine hw_k (c := 57) (b := 1) (e := 2) (by decide +kernel) ?_
    obtain ⟨hz3, hy3, ht3, hf3⟩ := H
    refine hw_if2 (a0 := 0) (b := 4) (e := 16) (by decide +kernel) hz3 hy3 (fun q => ?_) (fun q => ?_)
    · have H := ht3 q
      refine hw_k (c := 0) (b := 0) (e := 1) (by decide +kernel) ?_
      exact hw_ret (a0 := 0) (e := 1) (by decide +kernel) (Or.inr ⟨rfl, by decide⟩) H
    · have H := hf3 q
      refine hw_k (c := 1) (b := 0) (e := 1) (by decide +kernel) ?_
      refine hw_goto (a0 := 0) (b := 0) (e := 17) (by decide +kernel) ?_
      exact hw_ret (a0 := 0) (e := 1) (by decide +kernel) (Or.inr ⟨rfl, by decide⟩) H
theorem sf_32 {sc : List Int} {d : Nat} {φ : hf_F} {x : Nat} {Q : Option jm_V → hf_F → Nat → Prop} {v0 : Int} (hI : Inv φ) (h0a : (-128) ≤ v0) (h0b : v0 ≤ 127) (hQ : ∀ (r : Int) (ψ : hf_F), Inv ψ → Fr [] φ ψ → 0 ≤ r ∧ r ≤ 1 → Q (some (0, r)) ψ x) : hw sc d 32 0 [(0, (0, v0))] [] φ x Q := by
  apply sf_32_v
  refine ⟨by unfold hi; omega, by unfold hi; omega, fun q1 => ?_, fun q1 => ?_⟩
  · skip
    exact hQ 0 φ hI (fr_rf) ⟨by omega, by omega⟩
  · skip
    refine ⟨by unfold hi; omega, by unfold hi; omega, fun q3 => ?_, fun q3 => ?_⟩
    · skip
      exact hQ 0 φ hI (fr_rf) ⟨by omega, by omega⟩
    · skip
      exact hQ 1 φ hI (fr_rf) ⟨by omega, by omega⟩
theorem sf_35_v {sc : List Int} {d : Nat} {φ : hf_F} {x : Nat} {Q : Option jm_V → hf_F → Nat → Prop} {v0 : Int}
    (H : hi v0 ∧ hi 59 ∧ (v0 = 59 → Q (some (0, 1)) φ x) ∧ (¬ v0 = 59 → hi v0 ∧ hi 60 ∧ (v0 = 60 → Q (some (0, 1)) φ x) ∧ (¬ v0 = 60 → hi v0 ∧ hi 61 ∧ (v0 = 61 → Q (some (0, 1)) φ x) ∧ (¬ v0 = 61 → hi v0 ∧ hi 62 ∧ (v0 = 62 → Q (some (0, 1)) φ x) ∧ (¬ v0 = 62 → hi v0 ∧ hi 40 ∧ (v0 = 40 → Q (some (0, 1)) φ x) ∧ (¬ v0 = 40 → hi v0 ∧ hi 41 ∧ (¬ v0 = 41 → Q (some (0, 0)) φ x) ∧ (¬ (¬ v0 = 41) → Q (some (0, 1)) φ x))))))) :
    hw sc d 35 0 [(0, (0, v0))] [] φ x Q := by
  refine hw_ld (b := 0) (e := 0) (by decide +kernel) rfl ?_
  refine hw_k (c := 59) (b := 1) (e := 2) (by decide +kernel) ?_
  obtain ⟨hz1, hy1, ht1, hf1⟩ := H
  refine hw_if2 (a0 := 0) (b := 0) (e := 36) (by decide +kernel) hz1 hy1 (fun q => ?_) (fun q => ?_)
  · have H := ht1 q
    refine hw_k (c := 1) (b := 0) (e := 1) (by decide +kernel) ?_
    refine hw_goto (a0 := 0) (b := 0) (e := 41) (by decide +kernel) ?_
    exact hw_ret (a0 := 0) (e := 1) (by decide +kernel) (Or.inr ⟨rfl, by decide⟩) H
  · have H := hf1 q
    refine hw_ld (b := 0) (e := 0) (by decide +kernel) rfl ?_
    refine hw_k (c := 60) (b := 1) (e := 2) (by decide +kernel) ?_
    obtain ⟨hz3, hy3, ht3, hf3⟩ := H
    refine hw_if2 (a0 := 0) (b := 0) (e := 36) (by decide +kernel) hz3 hy3 (fun q => ?_) (fun q => ?_)
    · have H := ht3 q
      refine hw_k (c := 1) (b := 0) (e := 1) (by decide +kernel) ?_
      refine hw_goto (a0 := 0) (b := 0) (e := 41) (by decide +kernel) ?_
      exact hw_ret (a0 := 0) (e := 1) (by decide +kernel) (Or.inr ⟨rfl, by decide⟩) H
    · have H := hf3 q
      refine hw_ld (b := 0) (e := 0) (by decide +kernel) rfl ?_
      refine hw_k (c := 61) (b := 1) (e := 2) (by decide +kernel) ?_
      obtain ⟨hz5, hy5, ht5, hf5⟩ := H
      refine hw_if2 (a0 := 0) (b := 0) (e := 36) (by decide +kernel) hz5 hy5 (fun q => ?_) (fun q => ?_)
      · have H := ht5 q
        refine hw_k (c := 1) (b := 0) (e := 1) (by decide +kernel) ?_
        refine hw_goto (a0 := 0) (b := 0) (e := 41) (by decide +kernel) ?_
        exact hw_ret (a0 := 0) (e := 1) (by decide +kernel) (Or.inr ⟨rfl, by decide⟩) H
      · have H := hf5 q
        refine hw_ld (b := 0) (e := 0) (by decide +kernel) rfl ?_
        refine hw_k (c := 62) (b := 1) (e := 2) (by decide +kernel) ?_
        obtain ⟨hz7, hy7, ht7, hf7⟩ := H
        refine hw_if2 (a0 := 0) (b := 0) (e := 36) (by decide +kernel) hz7 hy7 (fun q => ?_) (fun q => ?_)
        · have H := ht7 q
          refine hw_k (c := 1) (b := 0) (e := 1) (by decide +kernel) ?_
          refine hw_goto (a0 := 0) (b := 0) (e := 41) (by decide +kernel) ?_
          exact hw_ret (a0 := 0) (e := 1) (by decide +kernel) (Or.inr ⟨rfl, by decide⟩) H
        · have H := hf7 q
          refine hw_ld (b := 0) (e := 0) (by decide +kernel) rfl ?_
          refine hw_k (c := 40) (b := 1) (e := 2) (by decide +kernel) ?_
          obtain ⟨hz9, hy9, ht9, hf9⟩ := H
          refine hw_if2 (a0 := 0) (b := 0) (e := 36) (by decide +kernel) hz9 hy9 (fun q => ?_) (fun q => ?_)
          · have H := ht9 q
            refine hw_k (c := 1) (b := 0) (e := 1) (by decide +kernel) ?_
            refine hw_goto (a0 := 0) (b := 0) (e := 41) (by decide +kernel) ?_
            exact hw_ret (a0 := 0) (e := 1) (by decide +kernel) (Or.inr ⟨rfl, by decide⟩) H
          · have H := hf9 q
            refine hw_ld (b := 0) (e := 0) (by decide +kernel) rfl ?_
            refine hw_k (c := 41) (b := 1) (e := 2) (by decide +kernel) ?_
            obtain ⟨hz11, hy11, ht11, hf11⟩ := H
            refine hw_if2 (a0 := 0) (b := 1) (e := 40) (by decide +kernel) hz11 hy11 (fun q => ?_) (fun q => ?_)
            · have H := ht11 q
              refine hw_k (c := 0) (b := 0) (e := 1) (by decide +kernel) ?_
              exact hw_ret (a0 := 0) (e := 1) (by decide +kernel) (Or.inr ⟨rfl, by decide⟩) H
            · have H := hf11 q
              refine hw_k (c := 1) (b := 0) (e := 1) (by decide +kernel) ?_
              refine hw_goto (a0 := 0) (b := 0) (e := 41) (by decide +kernel) ?_
              exact hw_ret (a0 := 0) (e := 1) (by decide +kernel) (Or.inr ⟨rfl, by decide⟩) H
theorem sf_35 {sc : List Int} {d : Nat} {φ : hf_F} {x : Nat} {Q : Option jm_V → hf_F → Nat → Prop} {v0 : Int} (hI : Inv φ) (h0a : (-128) ≤ v0) (h0b : v0 ≤ 127) (hQ : ∀ (r : Int) (ψ : hf_F), Inv ψ → Fr [] φ ψ → 0 ≤ r ∧ r ≤ 1 → Q (some (0, r)) ψ x) : hw sc d 35 0 [(0, (0, v0))] [] φ x Q := by
  apply sf_35_v
  refine ⟨by unfold hi; omega, by unfold hi; omega, fun q1 => ?_, fun q1 => ?_⟩
  · skip
    exact hQ 1 φ hI (fr_rf) ⟨by omega, by omega⟩
  · skip
    refine ⟨by unfold hi; omega, by unfold hi; omega, fun q3 => ?_, fun q3 => ?_⟩
    · skip
      exact hQ 1 φ hI (fr_rf) ⟨by omega, by omega⟩
    · skip
      refine ⟨by unfold hi; omega, by unfold hi; omega, fun q5 => ?_, fun q5 => ?_⟩
      · skip
        exact hQ 1 φ hI (fr_rf) ⟨by omega, by omega⟩
      · skip
        refine ⟨by unfold hi; omega, by unfold hi; omega, fun q7 => ?_, fun q7 => ?_⟩
        · skip
          exact hQ 1 φ hI (fr_rf) ⟨by omega, by omega⟩
        · skip
          refine ⟨by unfold hi; omega, by unfold hi; omega, fun q9 => ?_, fun q9 => ?_⟩
          · skip
            exact hQ 1 φ hI (fr_rf) ⟨by omega, by omega⟩
          · skip
            refine ⟨by unfold hi; omega, by unfold hi; omega, fun q11 => ?_, fun q11 => ?_⟩
            · skip
              exact hQ 0 φ hI (fr_rf) ⟨by omega, by omega⟩
            · skip
              exact hQ 1 φ hI (fr_rf) ⟨by omega, by omega⟩
theorem sf_125_0_v {sc : List Int} {d : Nat} {φ : hf_F} {x : Nat} {Q : Option jm_V → hf_F → Nat → Prop} {v1 : Int}
    (H : hi v1 ∧ (v1 < 0 → Q (some (0, (-1))) φ x) ∧ (¬ v1 < 0 → hi v1 ∧ hi (φ 189 1) ∧ ((φ 189 1) ≤ v1 → Q (some (0, (-1))) φ x) ∧ (¬ (φ 189 1) ≤ v1 → 0 ≤ v1 ∧ v1 < 32 ∧ (Q (some (0, φ 190 ((v1).toNat))) φ x)))) :
    hw sc d 125 0 [(0, (2, 0)), (1, (0, v1))] [] φ x Q := by
  refine hw_ld (b := 1) (e := 0) (by decide +kernel) rfl ?_
  obtain ⟨hz1, ht1, hf1⟩ := H
  refine hw_if (a0 := 0) (b := 2) (e := 27) (by decide +kernel) hz1 (fun q => ?_) (fun q => ?_)
  · have H := ht1 q
    refine hw_k (c := (-1)) (b := 0) (e := 1) (by decide +kernel) ?_
    exact hw_ret (a0 := 0) (e := 0) (by decide +kernel) (Or.inl rfl) H
  · have H := hf1 q
    refine hw_ld (b := 1) (e := 0) (by decide +kernel) rfl ?_
    refine hw_ald (b := 0) (e := 0) (by decide +kernel) rfl (by decide) ?_
    refine hr_gr (w := 189) (b := 0) (e := 10) 0 rfl (by decide +kernel) ?_
    refine hr_gi (w := φ 189 1) (b := 11) (e := 1) 189 rfl (by decide +kernel) rfl ?_
    obtain ⟨hz3, hy3, ht3, hf3⟩ := H
    refine hw_if2 (a0 := 0) (b := 3) (e := 27) (by decide +kernel) hz3 hy3 (fun q => ?_) (fun q => ?_)
    · have H := ht3 q
      refine hw_k (c := (-1)) (b := 0) (e := 1) (by decide +kernel) ?_
      exact hw_ret (a0 := 0) (e := 0) (by decide +kernel) (Or.inl rfl) H
    · have H := hf3 q
      refine hw_ald (b := 0) (e := 0) (by decide +kernel) rfl (by decide) ?_
      refine hr_gr (w := 189) (b := 0) (e := 10) 0 rfl (by decide +kernel) ?_
      refine hr_gr (w := 190) (b := 11) (e := 0) 189 rfl (by decide +kernel) ?_
      refine hw_ld (b := 1) (e := 0) (by decide +kernel) rfl ?_
      obtain ⟨hl5, hu5, H⟩ := H
      refine hr_al (b := 1) (a0 := 0) (e := 0) (n := 32) (w := φ 190 ((v1).toNat)) 190 rfl (by decide +kernel) (by decide) hl5 hu5 rfl ?_
      refine hw_goto (a0 := 0) (b := 0) (e := 28) (by decide +kernel) ?_
      exact hw_ret (a0 := 0) (e := 0) (by decide +kernel) (Or.inl rfl) H
theorem sf_125_0 {sc : List Int} {d : Nat} {φ : hf_F} {x : Nat} {Q : Option jm_V → hf_F → Nat → Prop} {v1 : Int} (hI : Inv φ) (h1a : (-2147483648) ≤ v1) (h1b : v1 ≤ 2147483647) (hQ : ∀ (r : Int) (ψ : hf_F), Inv ψ → Fr [] φ ψ → (-2147483648) ≤ r ∧ r ≤ 2147483647 → Q (some (0, r)) ψ x) : hw sc d 125 0 [(0, (2, 0)), (1, (0, v1))] [] φ x Q := by
  apply sf_125_0_v
  refine ⟨by unfold hi; omega, fun q1 => ?_, fun q1 => ?_⟩
  · skip
    exact hQ (-1) φ hI (fr_rf) ⟨by omega, by omega⟩
  · skip
    have f1 := iv_at (a := 189) (k := 1) (lo := 0) (u := 32) hI (by decide +kernel)
    refine ⟨by unfold hi; omega, by unfold hi; omega, fun q3 => ?_, fun q3 => ?_⟩
    · skip
      exact hQ (-1) φ hI (fr_rf) ⟨by omega, by omega⟩
    · skip
      refine ⟨by omega, by omega, ?_⟩
      have f2 := iv_ar (a := 190) (s := 0) (t := 32) (lo := (-128)) (u := 127) (z := v1) hI (by decide +kernel) (by omega) (by omega)
      exact hQ (φ 190 ((v1).toNat)) φ hI (fr_rf) ⟨by omega, by omega⟩
theorem sf_143_0_v {sc : List Int} {d : Nat} {φ : hf_F} {x : Nat} {Q : Option jm_V → hf_F → Nat → Prop} {v1 : Int}
    (H : hi v1 ∧ (v1 < 0 → Q (some (0, (-1))) φ x) ∧ (¬ v1 < 0 → hi v1 ∧ hi 4 ∧ (4 ≤ v1 → Q (some (0, (-1))) φ x) ∧ (¬ 4 ≤ v1 → 0 ≤ v1 ∧ v1 < 4 ∧ (Q (some (0, φ 191 ((v1).toNat))) φ x)))) :
    hw sc d 143 0 [(0, (2, 0)), (1, (0, v1))] [] φ x Q := by
  refine hw_ld (b := 1) (e := 0) (by decide +kernel) rfl ?_
  obtain ⟨hz1, ht1, hf1⟩ := H
  refine hw_if (a0 := 0) (b := 2) (e := 22) (by decide +kernel) hz1 (fun q => ?_) (fun q => ?_)
  · have H := ht1 q
    refine hw_k (c := (-1)) (b := 0) (e := 1) (by decide +kernel) ?_
    exact hw_ret (a0 := 0) (e := 0) (by decide +kernel) (Or.inl rfl) H
  · have H := hf1 q
    refine hw_ld (b := 1) (e := 0) (by decide +kernel) rfl ?_
    refine hw_ald (b := 0) (e := 0) (by decide +kernel) rfl (by decide) ?_
    refine hr_gr (w := 191) (b := 0) (e := 11) 0 rfl (by decide +kernel) ?_
    refine hr_len (n := 4) (a0 := 0) (b := 0) (e := 0) 191 rfl (by decide +kernel) ?_
    obtain ⟨hz3, hy3, ht3, hf3⟩ := H
    refine hw_if2 (a0 := 0) (b := 3) (e := 22) (by decide +kernel) hz3 hy3 (fun q => ?_) (fun q => ?_)
    · have H := ht3 q
      refine hw_k (c := (-1)) (b := 0) (e := 1) (by decide +kernel) ?_
      exact hw_ret (a0 := 0) (e := 0) (by decide +kernel) (Or.inl rfl) H
    · have H := hf3 q
      refine hw_ald (b := 0) (e := 0) (by decide +kernel) rfl (by decide) ?_
      refine hr_gr (w := 191) (b := 0) (e := 11) 0 rfl (by decide +kernel) ?_
      refine hw_ld (b := 1) (e := 0) (by decide +kernel) rfl ?_
      obtain ⟨hl5, hu5, H⟩ := H
      refine hr_al (b := 0) (a0 := 0) (e := 0) (n := 4) (w := φ 191 ((v1).toNat)) 191 rfl (by decide +kernel) (by decide) hl5 hu5 rfl ?_
      refine hw_goto (a0 := 0) (b := 0) (e := 23) (by decide +kernel) ?_
      exact hw_ret (a0 := 0) (e := 0) (by decide +kernel) (Or.inl rfl) H
theorem sf_143_0 {sc : List Int} {d : Nat} {φ : hf_F} {x : Nat} {Q : Option jm_V → hf_F → Nat → Prop} {v1 : Int} (hI : Inv φ) (h1a : (-2147483648) ≤ v1) (h1b : v1 ≤ 2147483647) (hQ : ∀ (r : Int) (ψ : hf_F), Inv ψ → Fr [] φ ψ → (-2147483648) ≤ r ∧ r ≤ 2147483647 → Q (some (0, r)) ψ x) : hw sc d 143 0 [(0, (2, 0)), (1, (0, v1))] [] φ x Q := by
  apply sf_143_0_v
  refine ⟨by unfold hi; omega, fun q1 => ?_, fun q1 => ?_⟩
  · skip
    exact hQ (-1) φ hI (fr_rf) ⟨by omega, by omega⟩
  · skip
    refine ⟨by unfold hi; omega, by unfold hi; omega, fun q3 => ?_, fun q3 => ?_⟩
    · skip
      exact hQ (-1) φ hI (fr_rf) ⟨by omega, by omega⟩
    · skip
      refine ⟨by omega, by omega, ?_⟩
      have f1 := iv_ar (a := 191) (s := 0) (t := 4) (lo := (-2147483648)) (u := 2147483647) (z := v1) hI (by decide +kernel) (by omega) (by omega)
      exact hQ (φ 191 ((v1).toNat)) φ hI (fr_rf) ⟨by omega, by omega⟩
theorem sf_158_0_v {sc : List Int} {d : Nat} {φ : hf_F} {x : Nat} {Q : Option jm_V → hf_F → Nat → Prop} {v1 : Int}
    (H : hi v1 ∧ hi 5 ∧ (¬ v1 = 5 → hi v1 ∧ (v1 < 0 → Q (some (0, (-1))) φ x) ∧ (¬ v1 < 0 → hi v1 ∧ hi 5 ∧ (5 ≤ v1 → Q (some (0, (-1))) φ x) ∧ (¬ 5 ≤ v1 → 0 ≤ v1 ∧ v1 < 5 ∧ (Q (some (0, φ 6 ((v1).toNat))) φ x)))) ∧ (¬ (¬ v1 = 5) → Q (some (0, φ 1 2)) φ x)) :
    hw sc d 158 0 [(0, (2, 0)), (1, (0, v1))] [] φ x Q := by
  refine hw_ld (b := 1) (e := 0) (by decide +kernel) rfl ?_
  refine hw_k (c := 5) (b := 0) (e := 1) (by decide +kernel) ?_
  obtain ⟨hz1, hy1, ht1, hf1⟩ := H
  refine hw_if2 (a0 := 0) (b := 1) (e := 13) (by decide +kernel) hz1 hy1 (fun q => ?_) (fun q => ?_)
  · have H := ht1 q
    refine hw_ld (b := 1) (e := 0) (by decide +kernel) rfl ?_
    obtain ⟨hz2, ht2, hf2⟩ := H
    refine hw_if (a0 := 0) (b := 2) (e := 37) (by decide +kernel) hz2 (fun q => ?_) (fun q => ?_)
    · have H := ht2 q
      refine hw_k (c := (-1)) (b := 0) (e := 1) (by decide +kernel) ?_
      exact hw_ret (a0 := 0) (e := 0) (by decide +kernel) (Or.inl rfl) H
    · have H := hf2 q
      refine hw_ld (b := 1) (e := 0) (by decide +kernel) rfl ?_
      refine hw_k (c := 5) (b := 0) (e := 1) (by decide +kernel) ?_
      obtain ⟨hz4, hy4, ht4, hf4⟩ := H
      refine hw_if2 (a0 := 0) (b := 3) (e := 37) (by decide +kernel) hz4 hy4 (fun q => ?_) (fun q => ?_)
      · have H := ht4 q
        refine hw_k (c := (-1)) (b := 0) (e := 1) (by decide +kernel) ?_
        exact hw_ret (a0 := 0) (e := 0) (by decide +kernel) (Or.inl rfl) H
      · have H := hf4 q
        refine hw_ald (b := 0) (e := 0) (by decide +kernel) rfl (by decide) ?_
        refine hr_gr (w := 4) (b := 0) (e := 1) 0 rfl (by decide +kernel) ?_
        refine hr_gr (w := 5) (b := 2) (e := 0) 4 rfl (by decide +kernel) ?_
        refine hr_gr (w := 6) (b := 3) (e := 0) 5 rfl (by decide +kernel) ?_
        refine hw_ld (b := 1) (e := 0) (by decide +kernel) rfl ?_
        obtain ⟨hl6, hu6, H⟩ := H
        refine hr_al (b := 0) (a0 := 0) (e := 0) (n := 5) (w := φ 6 ((v1).toNat)) 6 rfl (by decide +kernel) (by decide) hl6 hu6 rfl ?_
        refine hw_goto (a0 := 0) (b := 0) (e := 38) (by decide +kernel) ?_
        exact hw_ret (a0 := 0) (e := 0) (by decide +kernel) (Or.inl rfl) H
  · have H := hf1 q
    refine hw_ald (b := 0) (e := 0) (by decide +kernel) rfl (by decide) ?_
    refine hr_gr (w := 1) (b := 0) (e := 0) 0 rfl (by decide +kernel) ?_
    refine hr_gi (w := φ 1 2) (b := 1) (e := 2) 1 rfl (by decide +kernel) rfl ?_
    exact hw_ret (a0 := 0) (e := 0) (by decide +kernel) (Or.inl rfl) H
theorem sf_158_0 {sc : List Int} {d : Nat} {φ : hf_F} {x : Nat} {Q : Option jm_V → hf_F → Nat → Prop} {v1 : Int} (hI : Inv φ) (h1a : (-2147483648) ≤ v1) (h1b : v1 ≤ 2147483647) (hQ : ∀ (r : Int) (ψ : hf_F), Inv ψ → Fr [] φ ψ → (-2147483648) ≤ r ∧ r ≤ 2147483647 → Q (some (0, r)) ψ x) : hw sc d 158 0 [(0, (2, 0)), (1, (0, v1))] [] φ x Q := by
  apply sf_158_0_v
  refine ⟨by unfold hi; omega, by unfold hi; omega, fun q1 => ?_, fun q1 => ?_⟩
  · skip
    refine ⟨by unfold hi; omega, fun q2 => ?_, fun q2 => ?_⟩
    · skip
      exact hQ (-1) φ hI (fr_rf) ⟨by omega, by omega⟩
    · skip
      refine ⟨by unfold hi; omega, by unfold hi; omega, fun q4 => ?_, fun q4 => ?_⟩
      · skip
        exact hQ (-1) φ hI (fr_rf) ⟨by omega, by omega⟩
      · skip
        refine ⟨by omega, by omega, ?_⟩
        have f1 := iv_arh (a := 6) (s := 0) (t := 5) (lo := 0) (u := 8) (z := v1) hI (by decide +kernel) (by omega) (by omega)
        exact hQ (φ 6 ((v1).toNat)) φ hI (fr_rf) ⟨by omega, by omega⟩
  · skip
    have f2 := iv_at (a := 1) (k := 2) (lo := 0) (u := 940) hI (by decide +kernel)
    exact hQ (φ 1 2) φ hI (fr_rf) ⟨by omega, by omega⟩
theorem sf_71_17_v {sc : List Int} {d : Nat} {φ : hf_F} {x : Nat} {Q : Option jm_V → hf_F → Nat → Prop} {v1 v2 : Int}
    (H : 0 ≤ ((v1 * 6) + v2) ∧ ((v1 * 6) + v2) < 36 ∧ (Q (some (0, φ 22 (((v1 * 6) + v2).toNat))) φ x)) :
    hw sc d 71 0 [(0, (2, 17)), (1, (0, v1)), (2, (0, v2))] [] φ x Q := by
  refine hw_ald (b := 0) (e := 0) (by decide +kernel) rfl (by decide) ?_
  refine hr_gr (w := 22) (b := 4) (e := 10) 17 rfl (by decide +kernel) ?_
  refine hw_ld (b := 1) (e := 0) (by decide +kernel) rfl ?_
  refine hw_k (c := 6) (b := 1) (e := 2) (by decide +kernel) ?_
  refine hw_bin (w := v1 * 6) (a0 := 0) (b := 2) (e := 0) (by decide +kernel) rfl ?_
  refine hw_ld (b := 2) (e := 0) (by decide +kernel) rfl ?_
  refine hw_bin (w := (v1 * 6) + v2) (a0 := 0) (b := 0) (e := 0) (by decide +kernel) rfl ?_
  obtain ⟨hl1, hu1, H⟩ := H
  refine hr_al (b := 0) (a0 := 0) (e := 0) (n := 36) (w := φ 22 (((v1 * 6) + v2).toNat)) 22 rfl (by decide +kernel) (by decide) hl1 hu1 rfl ?_
  exact hw_ret (a0 := 0) (e := 0) (by decide +kernel) (Or.inl rfl) H
theorem sf_71_17 {sc : List Int} {d : Nat} {φ : hf_F} {x : Nat} {Q : Option jm_V → hf_F → Nat → Prop} {v1 v2 : Int} (hI : Inv φ) (h1a : (-2147483648) ≤ v1) (h1b : v1 ≤ 2147483647) (h2a : (-2147483648) ≤ v2) (h2b : v2 ≤ 2147483647) (hQ : ∀ (r : Int) (ψ : hf_F), Inv ψ → Fr [] φ ψ → (-2147483648) ≤ r ∧ r ≤ 2147483647 → Q (some (0, r)) ψ x) : hw sc d 71 0 [(0, (2, 17)), (1, (0, v1)), (2, (0, v2))] [] φ x Q := by
  apply sf_71_17_v
  refine ⟨by omega, by omega, ?_⟩
  have f1 := iv_ar (a := 22) (s := 0) (t := 36) (lo := 0) (u := 7) (z := (v1 * 6) + v2) hI (by decide +kernel) (by omega) (by omega)
  exact hQ (φ 22 (((v1 * 6) + v2).toNat)) φ hI (fr_rf) ⟨by omega, by omega⟩
theorem sf_69_0_v {sc : List Int} {d : Nat} {φ : hf_F} {x : Nat} {Q : Option jm_V → hf_F → Nat → Prop} {v1 v2 : Int}
    (H : hw sc d 70 0 [(0, (2, 0)), (1, (0, 3)), (2, (0, v1))] [] φ x (fun r ψ1 y1 => y1 = x ∧ (∃ z1 : Int, r = some (0, z1) ∧ (hi z1 ∧ (z1 = 0 → Q (some (0, (-1))) ψ1 x) ∧ (¬ z1 = 0 → hi v2 ∧ (v2 < 0 → Q (some (0, (-1))) ψ1 x) ∧ (¬ v2 < 0 → 0 ≤ v1 ∧ v1 < 6 ∧ (hi v2 ∧ hi (ψ1 21 ((v1).toNat)) ∧ (v2 < (ψ1 21 ((v1).toNat)) → hw sc d 71 0 [(0, (2, 17)), (1, (0, v1)), (2, (0, v2))] [] ψ1 x (fun r ψ8 y8 => y8 = x ∧ (∃ z8 : Int, r = some (0, z8) ∧ (Q (some (0, z8)) ψ8 x)))) ∧ (¬ v2 < (ψ1 21 ((v1).toNat)) → Q (some (0, (-1))) ψ1 x)))))))) :
    hw sc (d + 1) 69 0 [(0, (2, 0)), (1, (0, v1)), (2, (0, v2))] [] φ x Q := by
  refine hw_ald (b := 0) (e := 0) (by decide +kernel) rfl (by decide) ?_
  refine hw_k (c := 3) (b := 0) (e := 1) (by decide +kernel) ?_
  refine hw_ld (b := 1) (e := 0) (by decide +kernel) rfl ?_
  refine hr_call (a0 := 10) (b := 70) (e := 3) (nl := 3) (As := [(0, 3), (0, v1)]) (R := []) 0 rfl (by decide +kernel) rfl rfl (Nat.le_of_ble_eq_true rfl) (Nat.le_of_ble_eq_true rfl) ?_
  refine hw_mono H ?_
  rintro r ψ1 y1 ⟨hyx, z1, hr, H⟩
  subst hyx
  subst hr
  refine ⟨hne0, ?_⟩
  show hw sc (d + 1) 69 6 [(0, (2, 0)), (1, (0, v1)), (2, (0, v2))] [(0, z1)] ψ1 y1 Q
  obtain ⟨hz2, ht2, hf2⟩ := H
  refine hw_if (a0 := 0) (b := 0) (e := 29) (by decide +kernel) hz2 (fun q => ?_) (fun q => ?_)
  · have H := ht2 q
    refine hw_k (c := (-1)) (b := 0) (e := 1) (by decide +kernel) ?_
    exact hw_ret (a0 := 0) (e := 0) (by decide +kernel) (Or.inl rfl) H
  · have H := hf2 q
    refine hw_ld (b := 2) (e := 0) (by decide +kernel) rfl ?_
    obtain ⟨hz4, ht4, hf4⟩ := H
    refine hw_if (a0 := 0) (b := 2) (e := 29) (by decide +kernel) hz4 (fun q => ?_) (fun q => ?_)
    · have H := ht4 q
      refine hw_k (c := (-1)) (b := 0) (e := 1) (by decide +kernel) ?_
      exact hw_ret (a0 := 0) (e := 0) (by decide +kernel) (Or.inl rfl) H
    · have H := hf4 q
      refine hw_ld (b := 2) (e := 0) (by decide +kernel) rfl ?_
      refine hw_ald (b := 0) (e := 0) (by decide +kernel) rfl (by decide) ?_
      refine hr_gr (w := 4) (b := 0) (e := 1) 0 rfl (by decide +kernel) ?_
      refine hr_gr (w := 17) (b := 2) (e := 1) 4 rfl (by decide +kernel) ?_
      refine hr_gr (w := 21) (b := 4) (e := 9) 17 rfl (by decide +kernel) ?_
      refine hw_ld (b := 1) (e := 0) (by decide +kernel) rfl ?_
      obtain ⟨hl6, hu6, H⟩ := H
      refine hr_al (b := 0) (a0 := 0) (e := 0) (n := 6) (w := ψ1 21 ((v1).toNat)) 21 rfl (by decide +kernel) (by decide) hl6 hu6 rfl ?_
      obtain ⟨hz7, hy7, ht7, hf7⟩ := H
      refine hw_if2 (a0 := 0) (b := 2) (e := 31) (by decide +kernel) hz7 hy7 (fun q => ?_) (fun q => ?_)
      · have H := ht7 q
        refine hw_ald (b := 0) (e := 0) (by decide +kernel) rfl (by decide) ?_
        refine hr_gr (w := 4) (b := 0) (e := 1) 0 rfl (by decide +kernel) ?_
        refine hr_gr (w := 17) (b := 2) (e := 1) 4 rfl (by decide +kernel) ?_
        refine hw_ld (b := 1) (e := 0) (by decide +kernel) rfl ?_
        refine hw_ld (b := 2) (e := 0) (by decide +kernel) rfl ?_
        refine hr_call (a0 := 14) (b := 71) (e := 3) (nl := 3) (As := [(0, v1), (0, v2)]) (R := []) 17 rfl (by decide +kernel) rfl rfl (Nat.le_of_ble_eq_true rfl) (Nat.le_of_ble_eq_true rfl) ?_
        refine hw_mono H ?_
        rintro r ψ8 y8 ⟨hyx, z8, hr, H⟩
        subst hyx
        subst hr
        refine ⟨hne0, ?_⟩
        show hw sc (d + 1) 69 43 [(0, (2, 0)), (1, (0, v1)), (2, (0, v2))] [(0, z8)] ψ8 y8 Q
        exact hw_ret (a0 := 0) (e := 0) (by decide +kernel) (Or.inl rfl) H
      · have H := hf7 q
        refine hw_k (c := (-1)) (b := 0) (e := 1) (by decide +kernel) ?_
        exact hw_ret (a0 := 0) (e := 0) (by decide +kernel) (Or.inl rfl) H
theorem sf_69_0 {sc : List Int} {d : Nat} {φ : hf_F} {x : Nat} {Q : Option jm_V → hf_F → Nat → Prop} {v1 v2 : Int} (hI : Inv φ) (h1a : (-2147483648) ≤ v1) (h1b : v1 ≤ 2147483647) (h2a : (-2147483648) ≤ v2) (h2b : v2 ≤ 2147483647) (hQ : ∀ (r : Int) (ψ : hf_F), Inv ψ → Fr [] φ ψ → (-2147483648) ≤ r ∧ r ≤ 2147483647 → Q (some (0, r)) ψ x) : hw sc (d + 1) 69 0 [(0, (2, 0)), (1, (0, v1)), (2, (0, v2))] [] φ x Q := by
  apply sf_69_0_v
  refine sf_70_0 (φ := φ) hI (by omega) (by omega) (by omega) (by omega) (fun z1 ψ1 hI1 hF1 hp1 => ⟨rfl, z1, rfl, ?_⟩)
  have hG1 : Fr [] φ ψ1 := fr_tr (fr_rf) hF1 (by decide)
  refine ⟨by unfold hi; omega, fun q2 => ?_, fun q2 => ?_⟩
  · skip
    exact hQ (-1) ψ1 hI1 hG1 ⟨by omega, by omega⟩
  · skip
    refine ⟨by unfold hi; omega, fun q4 => ?_, fun q4 => ?_⟩
    · skip
      exact hQ (-1) ψ1 hI1 hG1 ⟨by omega, by omega⟩
    · skip
      refine ⟨by omega, by omega, ?_⟩
      have f1 := iv_ar (a := 21) (s := 0) (t := 6) (lo := 0) (u := 6) (z := v1) hI1 (by decide +kernel) (by omega) (by omega)
      have f2 : ψ1 21 ((v1).toNat) = φ 21 ((v1).toNat) := (hF1 21 (by decide) ((v1).toNat))
      have f3 := iv_ar (a := 21) (s := 0) (t := 6) (lo := 0) (u := 6) (z := v1) hI (by decide +kernel) (by omega) (by omega)
      refine ⟨by unfold hi; omega, by unfold hi; omega, fun q7 => ?_, fun q7 => ?_⟩
      · skip
        refine sf_71_17 (φ := ψ1) hI1 (by omega) (by omega) (by omega) (by omega) (fun z8 ψ8 hI8 hF8 hp8 => ⟨rfl, z8, rfl, ?_⟩)
        have hG8 : Fr [] φ ψ8 := fr_tr hG1 hF8 (by decide)
        exact hQ z8 ψ8 hI8 hG8 ⟨by omega, by omega⟩
      · skip
        exact hQ (-1) ψ1 hI1 hG1 ⟨by omega, by omega⟩
theorem sf_66_17_43_v {sc : List Int} {d : Nat} {φ : hf_F} {x : Nat} {Q : Option jm_V → hf_F → Nat → Prop} 
    (H : Q none (hf_cp (hf_cp (hf_cp (hf_cp (hf_cp (hf_cp (hf_cp (hf_cp (hf_up (hf_up (hf_up (hf_up (hf_up (hf_up φ 17 0 (φ 43 0)) 17 1 (φ 43 1)) 17 2 (φ 43 2)) 17 3 (φ 43 3)) 17 4 (φ 43 4)) 17 5 (φ 43 5)) 44 18 8) 45 19 8) 46 20 6) 47 21 6) 48 22 36) 49 23 6) 50 24 6) 51 25 8) x) :
    hw sc d 66 0 [(0, (2, 17)), (1, (2, 43))] [] φ x Q := by
  refine hw_ald (b := 0) (e := 0) (by decide +kernel) rfl (by decide) ?_
  refine hw_ald (b := 1) (e := 0) (by decide +kernel) rfl (by decide) ?_
  refine hr_gi (w := φ 43 0) (b := 4) (e := 0) 43 rfl (by decide +kernel) rfl ?_
  refine hr_pi (b := 4) (e := 0) 17 rfl (by decide +kernel) ?_
  refine hw_ald (b := 0) (e := 0) (by decide +kernel) rfl (by decide) ?_
  refine hw_ald (b := 1) (e := 0) (by decide +kernel) rfl (by decide) ?_
  refine hr_gi (w := φ 43 1) (b := 4) (e := 1) 43 rfl (by decide +kernel) (hf_up_ne (fun q => absurd q.1 (by decide))) ?_
  refine hr_pi (b := 4) (e := 1) 17 rfl (by decide +kernel) ?_
  refine hw_ald (b := 0) (e := 0) (by decide +kernel) rfl (by decide) ?_
  refine hw_ald (b := 1) (e := 0) (by decide +kernel) rfl (by decide) ?_
  refine hr_gi (w := φ 43 2) (b := 4) (e := 2) 43 rfl (by decide +kernel) ((hf_up_ne (fun q => absurd q.1 (by decide))).trans (hf_up_ne (fun q => absurd q.1 (by decide)))) ?_
  refine hr_pi (b := 4) (e := 2) 17 rfl (by decide +kernel) ?_
  refine hw_ald (b := 0) (e := 0) (by decide +kernel) rfl (by decide) ?_
  refine hw_ald (b := 1) (e := 0) (by decide +kernel) rfl (by decide) ?_
  refine hr_gi (w := φ 43 3) (b := 4) (e := 3) 43 rfl (by decide +kernel) ((hf_up_ne (fun q => absurd q.1 (by decide))).trans ((hf_up_ne (fun q => absurd q.1 (by decide))).trans (hf_up_ne (fun q => absurd q.1 (by decide))))) ?_
  refine hr_pi (b := 4) (e := 3) 17 rfl (by decide +kernel) ?_
  refine hw_ald (b := 0) (e := 0) (by decide +kernel) rfl (by decide) ?_
  refine hw_ald (b := 1) (e := 0) (by decide +kernel) rfl (by decide) ?_
  refine hr_gi (w := φ 43 4) (b := 4) (e := 4) 43 rfl (by decide +kernel) ((hf_up_ne (fun q => absurd q.1 (by decide))).trans ((hf_up_ne (fun q => absurd q.1 (by decide))).trans ((hf_up_ne (fun q => absurd q.1 (by decide))).trans (hf_up_ne (fun q => absurd q.1 (by decide)))))) ?_
  refine hr_pi (b := 4) (e := 4) 17 rfl (by decide +kernel) ?_
  refine hw_ald (b := 0) (e := 0) (by decide +kernel) rfl (by decide) ?_
  refine hw_ald (b := 1) (e := 0) (by decide +kernel) rfl (by decide) ?_
  refine hr_gi (w := φ 43 5) (b := 4) (e := 5) 43 rfl (by decide +kernel) ((hf_up_ne (fun q => absurd q.1 (by decide))).trans ((hf_up_ne (fun q => absurd q.1 (by decide))).trans ((hf_up_ne (fun q => absurd q.1 (by decide))).trans ((hf_up_ne (fun q => absurd q.1 (by decide))).trans (hf_up_ne (fun q => absurd q.1 (by decide))))))) ?_
  refine hr_pi (b := 4) (e := 5) 17 rfl (by decide +kernel) ?_
  refine hw_ald (b := 1) (e := 0) (by decide +kernel) rfl (by decide) ?_
  refine hr_gr (w := 44) (b := 4) (e := 6) 43 rfl (by decide +kernel) ?_
  refine hw_k (c := 0) (b := 0) (e := 1) (by decide +kernel) ?_
  refine hw_ald (b := 0) (e := 0) (by decide +kernel) rfl (by decide) ?_
  refine hr_gr (w := 18) (b := 4) (e := 6) 17 rfl (by decide +kernel) ?_
  refine hw_k (c := 0) (b := 0) (e := 1) (by decide +kernel) ?_
  refine hw_k (c := 8) (b := 1) (e := 2) (by decide +kernel) ?_
  refine hr_cp (a0 := 0) (b0 := 0) (e := 0) 44 18 8 rfl rfl rfl (by decide +kernel) (Nat.le_of_ble_eq_true rfl) ?_
  refine hw_ald (b := 1) (e := 0) (by decide +kernel) rfl (by decide) ?_
  refine hr_gr (w := 45) (b := 4) (e := 7) 43 rfl (by decide +kernel) ?_
  refine hw_k (c := 0) (b := 0) (e := 1) (by decide +kernel) ?_
  refine hw_ald (b := 0) (e := 0) (by decide +kernel) rfl (by decide) ?_
  refine hr_gr (w := 19) (b := 4) (e := 7) 17 rfl (by decide +kernel) ?_
  refine hw_k (c := 0) (b := 0) (e := 1) (by decide +kernel) ?_
  refine hw_k (c := 8) (b := 1) (e := 2) (by decide +kernel) ?_
  refine hr_cp (a0 := 0) (b0 := 0) (e := 0) 45 19 8 rfl rfl rfl (by decide +kernel) (Nat.le_of_ble_eq_true rfl) ?_
  refine hw_ald (b := 1) (e := 0) (by decide +kernel) rfl (by decide) ?_
  refine hr_gr (w := 46) (b := 4) (e := 8) 43 rfl (by decide +kernel) ?_
  refine hw_k (c := 0) (b := 0) (e := 1) (by decide +kernel) ?_
  refine hw_ald (b := 0) (e := 0) (by decide +kernel) rfl (by decide) ?_
  refine hr_gr (w := 20) (b := 4) (e := 8) 17 rfl (by decide +kernel) ?_
  refine hw_k (c := 0) (b := 0) (e := 1) (by decide +kernel) ?_
  refine hw_k (c := 6) (b := 1) (e := 2) (by decide +kernel) ?_
  refine hr_cp (a0 := 0) (b0 := 0) (e := 0) 46 20 6 rfl rfl rfl (by decide +kernel) (Nat.le_of_ble_eq_true rfl) ?_
  refine hw_ald (b := 1) (e := 0) (by decide +kernel) rfl (by decide) ?_
  refine hr_gr (w := 47) (b := 4) (e := 9) 43 rfl (by decide +kernel) ?_
  refine hw_k (c := 0) (b := 0) (e := 1) (by decide +kernel) ?_
  refine hw_ald (b := 0) (e := 0) (by decide +kernel) rfl (by decide) ?_
  refine hr_gr (w := 21) (b := 4) (e := 9) 17 rfl (by decide +kernel) ?_
  refine hw_k (c := 0) (b := 0) (e := 1) (by decide +kernel) ?_
  refine hw_k (c := 6) (b := 1) (e := 2) (by decide +kernel) ?_
  refine hr_cp (a0 := 0) (b0 := 0) (e := 0) 47 21 6 rfl rfl rfl (by decide +kernel) (Nat.le_of_ble_eq_true rfl) ?_
  refine hw_ald (b := 1) (e := 0) (by decide +kernel) rfl (by decide) ?_
  refine hr_gr (w := 48) (b := 4) (e := 10) 43 rfl (by decide +kernel) ?_
  refine hw_k (c := 0) (b := 0) (e := 1) (by decide +kernel) ?_
  refine hw_ald (b := 0) (e := 0) (by decide +kernel) rfl (by decide) ?_
  refine hr_gr (w := 22) (b := 4) (e := 10) 17 rfl (by decide +kernel) ?_
  refine hw_k (c := 0) (b := 0) (e := 1) (by decide +kernel) ?_
  refine hw_k (c := 36) (b := 1) (e := 2) (by decide +kernel) ?_
  refine hr_cp (a0 := 0) (b0 := 0) (e := 0) 48 22 36 rfl rfl rfl (by decide +kernel) (Nat.le_of_ble_eq_true rfl) ?_
  refine hw_ald (b := 1) (e := 0) (by decide +kernel) rfl (by decide) ?_
  refine hr_gr (w := 49) (b := 4) (e := 11) 43 rfl (by decide +kernel) ?_
  refine hw_k (c := 0) (b := 0) (e := 1) (by decide +kernel) ?_
  refine hw_ald (b := 0) (e := 0) (by decide +kernel) rfl (by decide) ?_
  refine hr_gr (w := 23) (b := 4) (e := 11) 17 rfl (by decide +kernel) ?_
  refine hw_k (c := 0) (b := 0) (e := 1) (by decide +kernel) ?_
  refine hw_k (c := 6) (b := 1) (e := 2) (by decide +kernel) ?_
  refine hr_cp (a0 := 0) (b0 := 0) (e := 0) 49 23 6 rfl rfl rfl (by decide +kernel) (Nat.le_of_ble_eq_true rfl) ?_
  refine hw_ald (b := 1) (e := 0) (by decide +kernel) rfl (by decide) ?_
  refine hr_gr (w := 50) (b := 4) (e := 12) 43 rfl (by decide +kernel) ?_
  refine hw_k (c := 0) (b := 0) (e := 1) (by decide +kernel) ?_
  refine hw_ald (b := 0) (e := 0) (by decide +kernel) rfl (by decide) ?_
  refine hr_gr (w := 24) (b := 4) (e := 12) 17 rfl (by decide +kernel) ?_
  refine hw_k (c := 0) (b := 0) (e := 1) (by decide +kernel) ?_
  refine hw_k (c := 6) (b := 1) (e := 2) (by decide +kernel) ?_
  refine hr_cp (a0 := 0) (b0 := 0) (e := 0) 50 24 6 rfl rfl rfl (by decide +kernel) (Nat.le_of_ble_eq_true rfl) ?_
  refine hw_ald (b := 1) (e := 0) (by decide +kernel) rfl (by decide) ?_
  refine hr_gr (w := 51) (b := 4) (e := 13) 43 rfl (by decide +kernel) ?_
  refine hw_k (c := 0) (b := 0) (e := 1) (by decide +kernel) ?_
  refine hw_ald (b := 0) (e := 0) (by decide +kernel) rfl (by decide) ?_
  refine hr_gr (w := 25) (b := 4) (e := 13) 17 rfl (by decide +kernel) ?_
  refine hw_k (c := 0) (b := 0) (e := 1) (by decide +kernel) ?_
  refine hw_k (c := 8) (b := 1) (e := 2) (by decide +kernel) ?_
  refine hr_cp (a0 := 0) (b0 := 0) (e := 0) 51 25 8 rfl rfl rfl (by decide +kernel) (Nat.le_of_ble_eq_true rfl) ?_
  exact hw_vret (a0 := 0) (e := 0) (by decide +kernel) H
theorem sf_66_17_43 {sc : List Int} {d : Nat} {φ : hf_F} {x : Nat} {Q : Option jm_V → hf_F → Nat → Prop}  (hI : Inv φ)  (hQ : ∀ ψ : hf_F, Inv ψ → Fr [17, 18, 19, 20, 21, 22, 23, 24, 25] φ ψ → Q none ψ x) : hw sc d 66 0 [(0, (2, 17)), (1, (2, 43))] [] φ x Q := by
  apply sf_66_17_43_v
  have i1 : Inv (hf_up φ 17 0 (φ 43 0)) := iv_upn hI (by decide +kernel)
  have r1 : Fr [17, 18, 19, 20, 21, 22, 23, 24, 25] φ (hf_up φ 17 0 (φ 43 0)) := fr_up (fr_rf) (by decide)
  have f2 := iv_at (a := 43) (k := 1) (lo := (-1)) (u := 7) hI (by decide +kernel)
  have i3 : Inv (hf_up (hf_up φ 17 0 (φ 43 0)) 17 1 (φ 43 1)) := iv_up (lo := (-1)) (u := 7) i1 (by decide +kernel) (by omega) (by omega)
  have r3 : Fr [17, 18, 19, 20, 21, 22, 23, 24, 25] φ (hf_up (hf_up φ 17 0 (φ 43 0)) 17 1 (φ 43 1)) := fr_up r1 (by decide)
  have f4 := iv_at (a := 43) (k := 2) (lo := (-1)) (u := 5) hI (by decide +kernel)
  have i5 : Inv (hf_up (hf_up (hf_up φ 17 0 (φ 43 0)) 17 1 (φ 43 1)) 17 2 (φ 43 2)) := iv_up (lo := (-1)) (u := 5) i3 (by decide +kernel) (by omega) (by omega)
  have r5 : Fr [17, 18, 19, 20, 21, 22, 23, 24, 25] φ (hf_up (hf_up (hf_up φ 17 0 (φ 43 0)) 17 1 (φ 43 1)) 17 2 (φ 43 2)) := fr_up r3 (by decide)
  have f6 := iv_at (a := 43) (k := 3) (lo := (-2147483648)) (u := 2147483647) hI (by decide +kernel)
  have i7 : Inv (hf_up (hf_up (hf_up (hf_up φ 17 0 (φ 43 0)) 17 1 (φ 43 1)) 17 2 (φ 43 2)) 17 3 (φ 43 3)) := iv_up (lo := (-2147483648)) (u := 2147483647) i5 (by decide +kernel) (by omega) (by omega)
  have r7 : Fr [17, 18, 19, 20, 21, 22, 23, 24, 25] φ (hf_up (hf_up (hf_up (hf_up φ 17 0 (φ 43 0)) 17 1 (φ 43 1)) 17 2 (φ 43 2)) 17 3 (φ 43 3)) := fr_up r5 (by decide)
  have i8 : Inv (hf_up (hf_up (hf_up (hf_up (hf_up φ 17 0 (φ 43 0)) 17 1 (φ 43 1)) 17 2 (φ 43 2)) 17 3 (φ 43 3)) 17 4 (φ 43 4)) := iv_upn i7 (by decide +kernel)
  have r8 : Fr [17, 18, 19, 20, 21, 22, 23, 24, 25] φ (hf_up (hf_up (hf_up (hf_up (hf_up φ 17 0 (φ 43 0)) 17 1 (φ 43 1)) 17 2 (φ 43 2)) 17 3 (φ 43 3)) 17 4 (φ 43 4)) := fr_up r7 (by decide)
  have i9 : Inv (hf_up (hf_up (hf_up (hf_up (hf_up (hf_up φ 17 0 (φ 43 0)) 17 1 (φ 43 1)) 17 2 (φ 43 2)) 17 3 (φ 43 3)) 17 4 (φ 43 4)) 17 5 (φ 43 5)) := iv_upn i8 (by decide +kernel)
  have r9 : Fr [17, 18, 19, 20, 21, 22, 23, 24, 25] φ (hf_up (hf_up (hf_up (hf_up (hf_up (hf_up φ 17 0 (φ 43 0)) 17 1 (φ 43 1)) 17 2 (φ 43 2)) 17 3 (φ 43 3)) 17 4 (φ 43 4)) 17 5 (φ 43 5)) := fr_up r8 (by decide)
  have i10 : Inv (hf_cp (hf_up (hf_up (hf_up (hf_up (hf_up (hf_up φ 17 0 (φ 43 0)) 17 1 (φ 43 1)) 17 2 (φ 43 2)) 17 3 (φ 43 3)) 17 4 (φ 43 4)) 17 5 (φ 43 5)) 44 18 8) := iv_cp i9 (by decide +kernel)
  have r10 : Fr [17, 18, 19, 20, 21, 22, 23, 24, 25] φ (hf_cp (hf_up (hf_up (hf_up (hf_up (hf_up (hf_up φ 17 0 (φ 43 0)) 17 1 (φ 43 1)) 17 2 (φ 43 2)) 17 3 (φ 43 3)) 17 4 (φ 43 4)) 17 5 (φ 43 5)) 44 18 8) := fr_cp r9 (by decide)
  have i11 : Inv (hf_cp (hf_cp (hf_up (hf_up (hf_up (hf_up (hf_up (hf_up φ 17 0 (φ 43 0)) 17 1 (φ 43 1)) 17 2 (φ 43 2)) 17 3 (φ 43 3)) 17 4 (φ 43 4)) 17 5 (φ 43 5)) 44 18 8) 45 19 8) := iv_cp i10 (by decide +kernel)
  have r11 : Fr [17, 18, 19, 20, 21, 22, 23, 24, 25] φ (hf_cp (hf_cp (hf_up (hf_up (hf_up (hf_up (hf_up (hf_up φ 17 0 (φ 43 0)) 17 1 (φ 43 1)) 17 2 (φ 43 2)) 17 3 (φ 43 3)) 17 4 (φ 43 4)) 17 5 (φ 43 5)) 44 18 8) 45 19 8) := fr_cp r10 (by decide)
  have i12 : Inv (hf_cp (hf_cp (hf_cp (hf_up (hf_up (hf_up (hf_up (hf_up (hf_up φ 17 0 (φ 43 0)) 17 1 (φ 43 1)) 17 2 (φ 43 2)) 17 3 (φ 43 3)) 17 4 (φ 43 4)) 17 5 (φ 43 5)) 44 18 8) 45 19 8) 46 20 6) := iv_cp i11 (by decide +kernel)
  have r12 : Fr [17, 18, 19, 20, 21, 22, 23, 24, 25] φ (hf_cp (hf_cp (hf_cp (hf_up (hf_up (hf_up (hf_up (hf_up (hf_up φ 17 0 (φ 43 0)) 17 1 (φ 43 1)) 17 2 (φ 43 2)) 17 3 (φ 43 3)) 17 4 (φ 43 4)) 17 5 (φ 43 5)) 44 18 8) 45 19 8) 46 20 6) := fr_cp r11 (by decide)
  have i13 : Inv (hf_cp (hf_cp (hf_cp (hf_cp (hf_up (hf_up (hf_up (hf_up (hf_up (hf_up φ 17 0 (φ 43 0)) 17 1 (φ 43 1)) 17 2 (φ 43 2)) 17 3 (φ 43 3)) 17 4 (φ 43 4)) 17 5 (φ 43 5)) 44 18 8) 45 19 8) 46 20 6) 47 21 6) := iv_cp i12 (by decide +kernel)
  have r13 : Fr [17, 18, 19, 20, 21, 22, 23, 24, 25] φ (hf_cp (hf_cp (hf_cp (hf_cp (hf_up (hf_up (hf_up (hf_up (hf_up (hf_up φ 17 0 (φ 43 0)) 17 1 (φ 43 1)) 17 2 (φ 43 2)) 17 3 (φ 43 3)) 17 4 (φ 43 4)) 17 5 (φ 43 5)) 44 18 8) 45 19 8) 46 20 6) 47 21 6) := fr_cp r12 (by decide)
  have i14 : Inv (hf_cp (hf_cp (hf_cp (hf_cp (hf_cp (hf_up (hf_up (hf_up (hf_up (hf_up (hf_up φ 17 0 (φ 43 0)) 17 1 (φ 43 1)) 17 2 (φ 43 2)) 17 3 (φ 43 3)) 17 4 (φ 43 4)) 17 5 (φ 43 5)) 44 18 8) 45 19 8) 46 20 6) 47 21 6) 48 22 36) := iv_cp i13 (by decide +kernel)
  have r14 : Fr [17, 18, 19, 20, 21, 22, 23, 24, 25] φ (hf_cp (hf_cp (hf_cp (hf_cp (hf_cp (hf_up (hf_up (hf_up (hf_up (hf_up (hf_up φ 17 0 (φ 43 0)) 17 1 (φ 43 1)) 17 2 (φ 43 2)) 17 3 (φ 43 3)) 17 4 (φ 43 4)) 17 5 (φ 43 5)) 44 18 8) 45 19 8) 46 20 6) 47 21 6) 48 22 36) := fr_cp r13 (by decide)
  have i15 : Inv (hf_cp (hf_cp (hf_cp (hf_cp (hf_cp (hf_cp (hf_up (hf_up (hf_up (hf_up (hf_up (hf_up φ 17 0 (φ 43 0)) 17 1 (φ 43 1)) 17 2 (φ 43 2)) 17 3 (φ 43 3)) 17 4 (φ 43 4)) 17 5 (φ 43 5)) 44 18 8) 45 19 8) 46 20 6) 47 21 6) 48 22 36) 49 23 6) := iv_cp i14 (by decide +kernel)
  have r15 : Fr [17, 18, 19, 20, 21, 22, 23, 24, 25] φ (hf_cp (hf_cp (hf_cp (hf_cp (hf_cp (hf_cp (hf_up (hf_up (hf_up (hf_up (hf_up (hf_up φ 17 0 (φ 43 0)) 17 1 (φ 43 1)) 17 2 (φ 43 2)) 17 3 (φ 43 3)) 17 4 (φ 43 4)) 17 5 (φ 43 5)) 44 18 8) 45 19 8) 46 20 6) 47 21 6) 48 22 36) 49 23 6) := fr_cp r14 (by decide)
  have i16 : Inv (hf_cp (hf_cp (hf_cp (hf_cp (hf_cp (hf_cp (hf_cp (hf_up (hf_up (hf_up (hf_up (hf_up (hf_up φ 17 0 (φ 43 0)) 17 1 (φ 43 1)) 17 2 (φ 43 2)) 17 3 (φ 43 3)) 17 4 (φ 43 4)) 17 5 (φ 43 5)) 44 18 8) 45 19 8) 46 20 6) 47 21 6) 48 22 36) 49 23 6) 50 24 6) := iv_cp i15 (by decide +kernel)
  have r16 : Fr [17, 18, 19, 20, 21, 22, 23, 24, 25] φ (hf_cp (hf_cp (hf_cp (hf_cp (hf_cp (hf_cp (hf_cp (hf_up (hf_up (hf_up (hf_up (hf_up (hf_up φ 17 0 (φ 43 0)) 17 1 (φ 43 1)) 17 2 (φ 43 2)) 17 3 (φ 43 3)) 17 4 (φ 43 4)) 17 5 (φ 43 5)) 44 18 8) 45 19 8) 46 20 6) 47 21 6) 48 22 36) 49 23 6) 50 24 6) := fr_cp r15 (by decide)
  have i17 : Inv (hf_cp (hf_cp (hf_cp (hf_cp (hf_cp (hf_cp (hf_cp (hf_cp (hf_up (hf_up (hf_up (hf_up (hf_up (hf_up φ 17 0 (φ 43 0)) 17 1 (φ 43 1)) 17 2 (φ 43 2)) 17 3 (φ 43 3)) 17 4 (φ 43 4)) 17 5 (φ 43 5)) 44 18 8) 45 19 8) 46 20 6) 47 21 6) 48 22 36) 49 23 6) 50 24 6) 51 25 8) := iv_cp i16 (by decide +kernel)
  have r17 : Fr [17, 18, 19, 20, 21, 22, 23, 24, 25] φ (hf_cp (hf_cp (hf_cp (hf_cp (hf_cp (hf_cp (hf_cp (hf_cp (hf_up (hf_up (hf_up (hf_up (hf_up (hf_up φ 17 0 (φ 43 0)) 17 1 (φ 43 1)) 17 2 (φ 43 2)) 17 3 (φ 43 3)) 17 4 (φ 43 4)) 17 5 (φ 43 5)) 44 18 8) 45 19 8) 46 20 6) 47 21 6) 48 22 36) 49 23 6) 50 24 6) 51 25 8) := fr_cp r16 (by decide)
  exact hQ (hf_cp (hf_cp (hf_cp (hf_cp (hf_cp (hf_cp (hf_cp (hf_cp (hf_up (hf_up (hf_up (hf_up (hf_up (hf_up φ 17 0 (φ 43 0)) 17 1 (φ 43 1)) 17 2 (φ 43 2)) 17 3 (φ 43 3)) 17 4 (φ 43 4)) 17 5 (φ 43 5)) 44 18 8) 45 19 8) 46 20 6) 47 21 6) 48 22 36) 49 23 6) 50 24 6) 51 25 8) i17 r17
