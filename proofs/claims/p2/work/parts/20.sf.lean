theorem sf_23_0_v {sc : List Int} {d : Nat} {φ : hf_F} {x : Nat} {Q : Option jm_V → hf_F → Nat → Prop} {v1 : Int}
    (H : hi v1 ∧ (v1 < 0 → Q (some (0, 0)) φ x) ∧ (¬ v1 < 0 → hi v1 ∧ hi (φ 1 2) ∧ (v1 ≤ (φ 1 2) → Q (some (0, 1)) (hf_up φ 1 2 v1) x) ∧ (¬ v1 ≤ (φ 1 2) → Q (some (0, 0)) φ x))) :
    hw sc d 23 0 [(0, (2, 0)), (1, (0, v1))] [] φ x Q := by
  refine hw_ld (b := 1) (e := 0) (by decide +kernel) rfl ?_
  obtain ⟨hz1, ht1, hf1⟩ := H
  refine hw_if (a0 := 0) (b := 2) (e := 15) (by decide +kernel) hz1 (fun q => ?_) (fun q => ?_)
  · have H := ht1 q
    refine hw_k (c := 0) (b := 0) (e := 1) (by decide +kernel) ?_
    exact hw_ret (a0 := 0) (e := 1) (by decide +kernel) (Or.inr ⟨rfl, by decide⟩) H
  · have H := hf1 q
    refine hw_ld (b := 1) (e := 0) (by decide +kernel) rfl ?_
    refine hw_ald (b := 0) (e := 0) (by decide +kernel) rfl (by decide) ?_
    refine hr_gr (w := 1) (b := 0) (e := 0) 0 rfl (by decide +kernel) ?_
    refine hr_gi (w := φ 1 2) (b := 1) (e := 2) 1 rfl (by decide +kernel) rfl ?_
    obtain ⟨hz3, hy3, ht3, hf3⟩ := H
    refine hw_if2 (a0 := 0) (b := 5) (e := 17) (by decide +kernel) hz3 hy3 (fun q => ?_) (fun q => ?_)
    · have H := ht3 q
      refine hw_ald (b := 0) (e := 0) (by decide +kernel) rfl (by decide) ?_
      refine hr_gr (w := 1) (b := 0) (e := 0) 0 rfl (by decide +kernel) ?_
      refine hw_ld (b := 1) (e := 0) (by decide +kernel) rfl ?_
      refine hr_pi (b := 1) (e := 2) 1 rfl (by decide +kernel) ?_
      refine hw_k (c := 1) (b := 0) (e := 1) (by decide +kernel) ?_
      exact hw_ret (a0 := 0) (e := 1) (by decide +kernel) (Or.inr ⟨rfl, by decide⟩) H
    · have H := hf3 q
      refine hw_k (c := 0) (b := 0) (e := 1) (by decide +kernel) ?_
      exact hw_ret (a0 := 0) (e := 1) (by decide +kernel) (Or.inr ⟨rfl, by decide⟩) H
theorem sf_23_0 {sc : List Int} {d : Nat} {φ : hf_F} {x : Nat} {Q : Option jm_V → hf_F → Nat → Prop} {v1 : Int} (hI : Inv φ) (h1a : (-2147483648 : Int) ≤ v1) (h1b : v1 ≤ 2147483647) (hQ : ∀ (r : Int) (ψ : hf_F), Inv ψ → Fr [1] φ ψ → 0 ≤ r ∧ r ≤ 1 → Q (some (0, r)) ψ x) : hw sc d 23 0 [(0, (2, 0)), (1, (0, v1))] [] φ x Q := by
  apply sf_23_0_v
  refine ⟨by unfold hi; omega, fun q1 => ?_, fun q1 => ?_⟩
  · skip
    exact hQ 0 φ hI (fr_rf) ⟨by omega, by omega⟩
  · skip
    have f1 := iv_at (a := 1) (k := 2) (lo := 0) (u := 940) hI (by decide +kernel)
    refine ⟨by unfold hi; omega, by unfold hi; omega, fun q3 => ?_, fun q3 => ?_⟩
    · skip
      have i2 : Inv (hf_up φ 1 2 v1) := iv_up (lo := 0) (u := 940) hI (by decide +kernel) (by omega) (by omega)
      have r2 : Fr [1] φ (hf_up φ 1 2 v1) := fr_up (fr_rf) (by decide)
      exact hQ 1 (hf_up φ 1 2 v1) i2 r2 ⟨by omega, by omega⟩
    · skip
      exact hQ 0 φ hI (fr_rf) ⟨by omega, by omega⟩
theorem sf_22_1_v3 {sc : List Int} {d : Nat} {φ : hf_F} {x : Nat} {Q : Option jm_V → hf_F → Nat → Prop} {L : jm_L} {l1 l2 : Int} (g0 : jm_get L 0 = some (2, 1)) (g1 : jm_get L 1 = some (0, l1)) (g2 : jm_get L 2 = some (0, l2))
    (H : hi l2 ∧ (l2 < 0 → Q none φ x) ∧ (¬ l2 < 0 → hi (φ 1 2) ∧ hi 940 ∧ (940 ≤ (φ 1 2) → hw sc d 22 3 (jm_st1 L 2 (0, l2 + (-8 : Int))) [] φ x Q) ∧ (¬ 940 ≤ (φ 1 2) → 0 ≤ (φ 1 2) ∧ (φ 1 2) < 940 ∧ (hw sc d 22 3 (jm_st1 L 2 (0, l2 + (-8 : Int))) [] (hf_up (hf_up φ 2 ((φ 1 2).toNat) (jm_b (hb_i2b (hb_ushr l1 l2)))) 1 2 ((φ 1 2) + 1)) x Q)))) :
    hw sc d 22 3 L [] φ x Q := by
  refine hw_ld (b := 2) (e := 0) (by decide +kernel) g2 ?_
  obtain ⟨hz1, ht1, hf1⟩ := H
  refine hw_if (a0 := 0) (b := 2) (e := 46) (by decide +kernel) hz1 (fun q => ?_) (fun q => ?_)
  · have H := ht1 q
    exact hw_vret (a0 := 0) (e := 0) (by decide +kernel) H
  · have H := hf1 q
    refine hw_ald (b := 0) (e := 0) (by decide +kernel) g0 (by decide) ?_
    refine hr_gi (w := φ 1 2) (b := 1) (e := 2) 1 rfl (by decide +kernel) rfl ?_
    refine hw_k (c := 940) (b := 2) (e := 3) (by decide +kernel) ?_
    obtain ⟨hz3, hy3, ht3, hf3⟩ := H
    refine hw_if2 (a0 := 0) (b := 3) (e := 40) (by decide +kernel) hz3 hy3 (fun q => ?_) (fun q => ?_)
    · have H := ht3 q
      refine hw_inc (L' := (jm_st1 L 2 (0, l2 + (-8 : Int)))) (c := (-8 : Int)) (b := 2) (e := 0) (by decide +kernel) g2 rfl ?_
      refine hw_goto (a0 := 0) (b := 0) (e := 3) (by decide +kernel) ?_
      exact H
    · have H := hf3 q
      refine hw_ald (b := 0) (e := 0) (by decide +kernel) g0 (by decide) ?_
      refine hr_gr (w := 2) (b := 1) (e := 0) 1 rfl (by decide +kernel) ?_
      refine hw_ald (b := 0) (e := 0) (by decide +kernel) g0 (by decide) ?_
      refine hr_gi (w := φ 1 2) (b := 1) (e := 2) 1 rfl (by decide +kernel) rfl ?_
      refine hw_ld (b := 1) (e := 0) (by decide +kernel) g1 ?_
      refine hw_ld (b := 2) (e := 0) (by decide +kernel) g2 ?_
      refine hw_bin (w := hb_ushr l1 l2) (a0 := 0) (b := 8) (e := 0) (by decide +kernel) rfl ?_
      refine hw_conv (t' := 0) (w := hb_i2b (hb_ushr l1 l2)) (a0 := 0) (b := 2) (e := 0) (by decide +kernel) rfl ?_
      obtain ⟨hl4, hu4, H⟩ := H
      refine hr_asb (a0 := 0) (e := 4) (n := 940) 2 rfl (by decide +kernel) hl4 hu4 ?_
      refine hw_ald (b := 0) (e := 0) (by decide +kernel) g0 (by decide) ?_
      refine hw_dup (a0 := 0) (e := 0) (by decide +kernel) (by decide) ?_
      refine hr_gi (w := φ 1 2) (b := 1) (e := 2) 1 rfl (by decide +kernel) (hf_up_ne (fun q => absurd q.1 (by decide))) ?_
      refine hw_k (c := 1) (b := 0) (e := 1) (by decide +kernel) ?_
      refine hw_bin (w := (φ 1 2) + 1) (a0 := 0) (b := 0) (e := 0) (by decide +kernel) rfl ?_
      refine hr_pi (b := 1) (e := 2) 1 rfl (by decide +kernel) ?_
      refine hw_inc (L' := (jm_st1 L 2 (0, l2 + (-8 : Int)))) (c := (-8 : Int)) (b := 2) (e := 0) (by decide +kernel) g2 rfl ?_
      refine hw_goto (a0 := 0) (b := 0) (e := 3) (by decide +kernel) ?_
      exact H
theorem sf_22_1_l3 {sc : List Int} {d x : Nat} {Q : Option jm_V → hf_F → Nat → Prop} : ∀ (n : Nat) (φ : hf_F) (L : jm_L) (l1 l2 : Int), jm_get L 0 = some (2, 1) → jm_get L 1 = some (0, l1) → jm_get L 2 = some (0, l2) → Inv φ → l2 + 8 < (n : Int) → (-8 : Int) ≤ l2 → l2 ≤ 24 → (∀ ψ : hf_F, Inv ψ → Fr [1, 2] φ ψ → Q none ψ x) → hw sc d 22 3 L [] φ x Q := by
  intro n
  induction n with
  | zero =>
    intro φ L l1 l2 g0 g1 g2 hI hM b2a b2b hQ
    exfalso
    omega
  | succ n ih =>
    intro φ L l1 l2 g0 g1 g2 hI hM b2a b2b hQ
    refine sf_22_1_v3 g0 g1 g2 ?_
    refine ⟨by unfold hi; omega, fun q1 => ?_, fun q1 => ?_⟩
    · skip
      exact hQ φ hI (fr_rf)
    · skip
      have f1 := iv_at (a := 1) (k := 2) (lo := 0) (u := 940) hI (by decide +kernel)
      refine ⟨by unfold hi; omega, by unfold hi; omega, fun q3 => ?_, fun q3 => ?_⟩
      · skip
        exact ih φ (jm_st1 L 2 (0, l2 + (-8 : Int))) l1 (l2 + (-8 : Int)) (get_st1 g0 (by decide) (fun q => absurd q.1 (by decide))) (get_st1 g1 (by decide) (fun q => tg0 q.2)) get_st1e hI (by omega) (by omega) (by omega) (fun χ hIχ hFχ => hQ χ hIχ (fr_tr (fr_rf) hFχ (by decide)))
      · skip
        have f2 := hr_ushr l1 l2
        have f3 := hr_i2b (hb_ushr l1 l2)
        refine ⟨by omega, by omega, ?_⟩
        have f4 := hr_jmb (hb_i2b (hb_ushr l1 l2))
        have i5 : Inv (hf_up φ 2 ((φ 1 2).toNat) (jm_b (hb_i2b (hb_ushr l1 l2)))) := iv_upI (s := 0) (t := 940) (lo := (-128 : Int)) (u := 127) (z := φ 1 2) hI (by decide +kernel) (by omega) (by omega) (by omega) (by omega)
        have r5 : Fr [1, 2] φ (hf_up φ 2 ((φ 1 2).toNat) (jm_b (hb_i2b (hb_ushr l1 l2)))) := fr_up (fr_rf) (by decide)
        have i6 : Inv (hf_up (hf_up φ 2 ((φ 1 2).toNat) (jm_b (hb_i2b (hb_ushr l1 l2)))) 1 2 ((φ 1 2) + 1)) := iv_up (lo := 0) (u := 940) i5 (by decide +kernel) (by omega) (by omega)
        have r6 : Fr [1, 2] φ (hf_up (hf_up φ 2 ((φ 1 2).toNat) (jm_b (hb_i2b (hb_ushr l1 l2)))) 1 2 ((φ 1 2) + 1)) := fr_up r5 (by decide)
        exact ih (hf_up (hf_up φ 2 ((φ 1 2).toNat) (jm_b (hb_i2b (hb_ushr l1 l2)))) 1 2 ((φ 1 2) + 1)) (jm_st1 L 2 (0, l2 + (-8 : Int))) l1 (l2 + (-8 : Int)) (get_st1 g0 (by decide) (fun q => absurd q.1 (by decide))) (get_st1 g1 (by decide) (fun q => tg0 q.2)) get_st1e i6 (by omega) (by omega) (by omega) (fun χ hIχ hFχ => hQ χ hIχ (fr_tr r6 hFχ (by decide)))
theorem sf_22_1_v {sc : List Int} {d : Nat} {φ : hf_F} {x : Nat} {Q : Option jm_V → hf_F → Nat → Prop} {v1 : Int}
    (H : hw sc d 22 3 (jm_st1 [(0, (2, 1)), (1, (0, v1))] 2 (0, 24)) [] φ x Q) :
    hw sc d 22 0 [(0, (2, 1)), (1, (0, v1))] [] φ x Q := by
  refine hw_k (c := 24) (b := 1) (e := 2) (by decide +kernel) ?_
  refine hw_st (L' := (jm_st1 [(0, (2, 1)), (1, (0, v1))] 2 (0, 24))) (b := 2) (e := 0) (by decide +kernel) rfl ?_
  exact H
theorem sf_22_1 {sc : List Int} {d : Nat} {φ : hf_F} {x : Nat} {Q : Option jm_V → hf_F → Nat → Prop} {v1 : Int} (hI : Inv φ) (h1a : (-2147483648 : Int) ≤ v1) (h1b : v1 ≤ 2147483647) (hQ : ∀ ψ : hf_F, Inv ψ → Fr [1, 2] φ ψ → Q none ψ x) : hw sc d 22 0 [(0, (2, 1)), (1, (0, v1))] [] φ x Q := by
  apply sf_22_1_v
  exact sf_22_1_l3 ((24 + 8 : Int).toNat + 1) φ (jm_st1 [(0, (2, 1)), (1, (0, v1))] 2 (0, 24)) v1 24 (get_st1 rfl (by decide) (fun q => absurd q.1 (by decide))) (get_st1 rfl (by decide) (fun q => tg0 q.2)) get_st1e hI (by omega) (by omega) (by omega) (fun χ hIχ hFχ => hQ χ hIχ (fr_tr (fr_rf) hFχ (by decide)))
theorem sf_21_0_v {sc : List Int} {d : Nat} {φ : hf_F} {x : Nat} {Q : Option jm_V → hf_F → Nat → Prop} {v1 v2 v3 v4 v5 : Int}
    (H : hi ((φ 1 2) + 20) ∧ hi 940 ∧ (((φ 1 2) + 20) ≤ 940 → hw sc d 22 0 [(0, (2, 1)), (1, (0, v1))] [] φ x (fun r ψ2 y2 => y2 = x ∧ (r = none ∧ (hw sc d 22 0 [(0, (2, 1)), (1, (0, v2))] [] ψ2 x (fun r ψ3 y3 => y3 = x ∧ (r = none ∧ (hw sc d 22 0 [(0, (2, 1)), (1, (0, v3))] [] ψ3 x (fun r ψ4 y4 => y4 = x ∧ (r = none ∧ (hw sc d 22 0 [(0, (2, 1)), (1, (0, v4))] [] ψ4 x (fun r ψ5 y5 => y5 = x ∧ (r = none ∧ (hw sc d 22 0 [(0, (2, 1)), (1, (0, v5))] [] ψ5 x (fun r ψ6 y6 => y6 = x ∧ (r = none ∧ (Q (some (0, ψ6 1 2)) ψ6 x)))))))))))))))) ∧ (¬ ((φ 1 2) + 20) ≤ 940 → Q (some (0, (-1 : Int))) φ x)) :
    hw sc (d + 1) 21 0 [(0, (2, 0)), (1, (0, v1)), (2, (0, v2)), (3, (0, v3)), (4, (0, v4)), (5, (0, v5))] [] φ x Q := by
  refine hw_ald (b := 0) (e := 0) (by decide +kernel) rfl (by decide) ?_
  refine hr_gr (w := 1) (b := 0) (e := 0) 0 rfl (by decide +kernel) ?_
  refine hr_gi (w := φ 1 2) (b := 1) (e := 2) 1 rfl (by decide +kernel) rfl ?_
  refine hw_k (c := 20) (b := 1) (e := 2) (by decide +kernel) ?_
  refine hw_bin (w := (φ 1 2) + 20) (a0 := 0) (b := 0) (e := 0) (by decide +kernel) rfl ?_
  refine hw_k (c := 940) (b := 2) (e := 3) (by decide +kernel) ?_
  obtain ⟨hz1, hy1, ht1, hf1⟩ := H
  refine hw_if2 (a0 := 0) (b := 5) (e := 18) (by decide +kernel) hz1 hy1 (fun q => ?_) (fun q => ?_)
  · have H := ht1 q
    refine hw_ald (b := 0) (e := 0) (by decide +kernel) rfl (by decide) ?_
    refine hr_gr (w := 1) (b := 0) (e := 0) 0 rfl (by decide +kernel) ?_
    refine hw_ld (b := 1) (e := 0) (by decide +kernel) rfl ?_
    refine hr_call (a0 := 11) (b := 22) (e := 2) (nl := 3) (As := [(0, v1)]) (R := []) 1 rfl (by decide +kernel) rfl rfl (Nat.le_of_ble_eq_true rfl) (Nat.le_of_ble_eq_true rfl) ?_
    refine hw_mono H ?_
    rintro r ψ2 y2 ⟨hyx, hr, H⟩
    subst hyx
    subst hr
    refine ⟨hnen, ?_⟩
    show hw sc (d + 1) 21 26 [(0, (2, 0)), (1, (0, v1)), (2, (0, v2)), (3, (0, v3)), (4, (0, v4)), (5, (0, v5))] [] ψ2 y2 Q
    refine hw_ald (b := 0) (e := 0) (by decide +kernel) rfl (by decide) ?_
    refine hr_gr (w := 1) (b := 0) (e := 0) 0 rfl (by decide +kernel) ?_
    refine hw_ld (b := 2) (e := 0) (by decide +kernel) rfl ?_
    refine hr_call (a0 := 11) (b := 22) (e := 2) (nl := 3) (As := [(0, v2)]) (R := []) 1 rfl (by decide +kernel) rfl rfl (Nat.le_of_ble_eq_true rfl) (Nat.le_of_ble_eq_true rfl) ?_
    refine hw_mono H ?_
    rintro r ψ3 y3 ⟨hyx, hr, H⟩
    subst hyx
    subst hr
    refine ⟨hnen, ?_⟩
    show hw sc (d + 1) 21 34 [(0, (2, 0)), (1, (0, v1)), (2, (0, v2)), (3, (0, v3)), (4, (0, v4)), (5, (0, v5))] [] ψ3 y3 Q
    refine hw_ald (b := 0) (e := 0) (by decide +kernel) rfl (by decide) ?_
    refine hr_gr (w := 1) (b := 0) (e := 0) 0 rfl (by decide +kernel) ?_
    refine hw_ld (b := 3) (e := 0) (by decide +kernel) rfl ?_
    refine hr_call (a0 := 11) (b := 22) (e := 2) (nl := 3) (As := [(0, v3)]) (R := []) 1 rfl (by decide +kernel) rfl rfl (Nat.le_of_ble_eq_true rfl) (Nat.le_of_ble_eq_true rfl) ?_
    refine hw_mono H ?_
    rintro r ψ4 y4 ⟨hyx, hr, H⟩
    subst hyx
    subst hr
    refine ⟨hnen, ?_⟩
    show hw sc (d + 1) 21 42 [(0, (2, 0)), (1, (0, v1)), (2, (0, v2)), (3, (0, v3)), (4, (0, v4)), (5, (0, v5))] [] ψ4 y4 Q
    refine hw_ald (b := 0) (e := 0) (by decide +kernel) rfl (by decide) ?_
    refine hr_gr (w := 1) (b := 0) (e := 0) 0 rfl (by decide +kernel) ?_
    refine hw_ld (b := 4) (e := 1) (by decide +kernel) rfl ?_
    refine hr_call (a0 := 11) (b := 22) (e := 2) (nl := 3) (As := [(0, v4)]) (R := []) 1 rfl (by decide +kernel) rfl rfl (Nat.le_of_ble_eq_true rfl) (Nat.le_of_ble_eq_true rfl) ?_
    refine hw_mono H ?_
    rintro r ψ5 y5 ⟨hyx, hr, H⟩
    subst hyx
    subst hr
    refine ⟨hnen, ?_⟩
    show hw sc (d + 1) 21 51 [(0, (2, 0)), (1, (0, v1)), (2, (0, v2)), (3, (0, v3)), (4, (0, v4)), (5, (0, v5))] [] ψ5 y5 Q
    refine hw_ald (b := 0) (e := 0) (by decide +kernel) rfl (by decide) ?_
    refine hr_gr (w := 1) (b := 0) (e := 0) 0 rfl (by decide +kernel) ?_
    refine hw_ld (b := 5) (e := 1) (by decide +kernel) rfl ?_
    refine hr_call (a0 := 11) (b := 22) (e := 2) (nl := 3) (As := [(0, v5)]) (R := []) 1 rfl (by decide +kernel) rfl rfl (Nat.le_of_ble_eq_true rfl) (Nat.le_of_ble_eq_true rfl) ?_
    refine hw_mono H ?_
    rintro r ψ6 y6 ⟨hyx, hr, H⟩
    subst hyx
    subst hr
    refine ⟨hnen, ?_⟩
    show hw sc (d + 1) 21 60 [(0, (2, 0)), (1, (0, v1)), (2, (0, v2)), (3, (0, v3)), (4, (0, v4)), (5, (0, v5))] [] ψ6 y6 Q
    refine hw_ald (b := 0) (e := 0) (by decide +kernel) rfl (by decide) ?_
    refine hr_gr (w := 1) (b := 0) (e := 0) 0 rfl (by decide +kernel) ?_
    refine hr_gi (w := ψ6 1 2) (b := 1) (e := 2) 1 rfl (by decide +kernel) rfl ?_
    exact hw_ret (a0 := 0) (e := 0) (by decide +kernel) (Or.inl rfl) H
  · have H := hf1 q
    refine hw_k (c := (-1 : Int)) (b := 0) (e := 1) (by decide +kernel) ?_
    exact hw_ret (a0 := 0) (e := 0) (by decide +kernel) (Or.inl rfl) H
theorem sf_21_0 {sc : List Int} {d : Nat} {φ : hf_F} {x : Nat} {Q : Option jm_V → hf_F → Nat → Prop} {v1 v2 v3 v4 v5 : Int} (hI : Inv φ) (h1a : (-2147483648 : Int) ≤ v1) (h1b : v1 ≤ 2147483647) (h2a : (-2147483648 : Int) ≤ v2) (h2b : v2 ≤ 2147483647) (h3a : (-2147483648 : Int) ≤ v3) (h3b : v3 ≤ 2147483647) (h4a : (-2147483648 : Int) ≤ v4) (h4b : v4 ≤ 2147483647) (h5a : (-2147483648 : Int) ≤ v5) (h5b : v5 ≤ 2147483647) (hQ : ∀ (r : Int) (ψ : hf_F), Inv ψ → Fr [1, 2] φ ψ → True → Q (some (0, r)) ψ x) : hw sc (d + 1) 21 0 [(0, (2, 0)), (1, (0, v1)), (2, (0, v2)), (3, (0, v3)), (4, (0, v4)), (5, (0, v5))] [] φ x Q := by
  apply sf_21_0_v
  have f1 := iv_at (a := 1) (k := 2) (lo := 0) (u := 940) hI (by decide +kernel)
  refine ⟨by unfold hi; omega, by unfold hi; omega, fun q1 => ?_, fun q1 => ?_⟩
  · skip
    refine sf_22_1 (φ := φ) hI (by omega) (by omega) (fun ψ2 hI2 hF2 => ⟨rfl, rfl, ?_⟩)
    have hG2 : Fr [1, 2] φ ψ2 := fr_tr (fr_rf) hF2 (by decide)
    refine sf_22_1 (φ := ψ2) hI2 (by omega) (by omega) (fun ψ3 hI3 hF3 => ⟨rfl, rfl, ?_⟩)
    have hG3 : Fr [1, 2] φ ψ3 := fr_tr hG2 hF3 (by decide)
    refine sf_22_1 (φ := ψ3) hI3 (by omega) (by omega) (fun ψ4 hI4 hF4 => ⟨rfl, rfl, ?_⟩)
    have hG4 : Fr [1, 2] φ ψ4 := fr_tr hG3 hF4 (by decide)
    refine sf_22_1 (φ := ψ4) hI4 (by omega) (by omega) (fun ψ5 hI5 hF5 => ⟨rfl, rfl, ?_⟩)
    have hG5 : Fr [1, 2] φ ψ5 := fr_tr hG4 hF5 (by decide)
    refine sf_22_1 (φ := ψ5) hI5 (by omega) (by omega) (fun ψ6 hI6 hF6 => ⟨rfl, rfl, ?_⟩)
    have hG6 : Fr [1, 2] φ ψ6 := fr_tr hG5 hF6 (by decide)
    have f2 := iv_at (a := 1) (k := 2) (lo := 0) (u := 940) hI6 (by decide +kernel)
    exact hQ (ψ6 1 2) ψ6 hI6 hG6 trivial
  · skip
    exact hQ (-1 : Int) φ hI (fr_rf) trivial
theorem sf_125_0_v {sc : List Int} {d : Nat} {φ : hf_F} {x : Nat} {Q : Option jm_V → hf_F → Nat → Prop} {v1 : Int}
    (H : hi v1 ∧ (v1 < 0 → Q (some (0, (-1 : Int))) φ x) ∧ (¬ v1 < 0 → hi v1 ∧ hi (φ 189 1) ∧ ((φ 189 1) ≤ v1 → Q (some (0, (-1 : Int))) φ x) ∧ (¬ (φ 189 1) ≤ v1 → 0 ≤ v1 ∧ v1 < 32 ∧ (Q (some (0, φ 190 ((v1).toNat))) φ x)))) :
    hw sc d 125 0 [(0, (2, 0)), (1, (0, v1))] [] φ x Q := by
  refine hw_ld (b := 1) (e := 0) (by decide +kernel) rfl ?_
  obtain ⟨hz1, ht1, hf1⟩ := H
  refine hw_if (a0 := 0) (b := 2) (e := 27) (by decide +kernel) hz1 (fun q => ?_) (fun q => ?_)
  · have H := ht1 q
    refine hw_k (c := (-1 : Int)) (b := 0) (e := 1) (by decide +kernel) ?_
    exact hw_ret (a0 := 0) (e := 0) (by decide +kernel) (Or.inl rfl) H
  · have H := hf1 q
    refine hw_ld (b := 1) (e := 0) (by decide +kernel) rfl ?_
    refine hw_ald (b := 0) (e := 0) (by decide +kernel) rfl (by decide) ?_
    refine hr_gr (w := 189) (b := 0) (e := 10) 0 rfl (by decide +kernel) ?_
    refine hr_gi (w := φ 189 1) (b := 11) (e := 1) 189 rfl (by decide +kernel) rfl ?_
    obtain ⟨hz3, hy3, ht3, hf3⟩ := H
    refine hw_if2 (a0 := 0) (b := 3) (e := 27) (by decide +kernel) hz3 hy3 (fun q => ?_) (fun q => ?_)
    · have H := ht3 q
      refine hw_k (c := (-1 : Int)) (b := 0) (e := 1) (by decide +kernel) ?_
      exact hw_ret (a0 := 0) (e := 0) (by decide +kernel) (Or.inl rfl) H
    · have H := hf3 q
      refine hw_ald (b := 0) (e := 0) (by decide +kernel) rfl (by decide) ?_
      refine hr_gr (w := 189) (b := 0) (e := 10) 0 rfl (by decide +kernel) ?_
      refine hr_gr (w := 190) (b := 11) (e := 0) 189 rfl (by decide +kernel) ?_
      refine hw_ld (b := 1) (e := 0) (by decide +kernel) rfl ?_
      obtain ⟨hl5, hu5, H⟩ := H
      refine hr_al (b := 1) (a0 := 0) (e := 0) (n := 32) (w := φ 190 ((v1).toNat)) 190 rfl (by decide +kernel) (by decide) hl5 hu5 rfl ?_
      refine hw_goto (a0 := 0) (b := 0) (e := 28) (by decide +kernel) ?_
      exact hw_ret (a0 := 0) (e := 0) (by decide +kernel) (Or.inl rfl) H
theorem sf_125_0 {sc : List Int} {d : Nat} {φ : hf_F} {x : Nat} {Q : Option jm_V → hf_F → Nat → Prop} {v1 : Int} (hI : Inv φ) (h1a : (-2147483648 : Int) ≤ v1) (h1b : v1 ≤ 2147483647) (hQ : ∀ (r : Int) (ψ : hf_F), Inv ψ → Fr [] φ ψ → True → Q (some (0, r)) ψ x) : hw sc d 125 0 [(0, (2, 0)), (1, (0, v1))] [] φ x Q := by
  apply sf_125_0_v
  refine ⟨by unfold hi; omega, fun q1 => ?_, fun q1 => ?_⟩
  · skip
    exact hQ (-1 : Int) φ hI (fr_rf) trivial
  · skip
    have f1 := iv_at (a := 189) (k := 1) (lo := 0) (u := 32) hI (by decide +kernel)
    refine ⟨by unfold hi; omega, by unfold hi; omega, fun q3 => ?_, fun q3 => ?_⟩
    · skip
      exact hQ (-1 : Int) φ hI (fr_rf) trivial
    · skip
      refine ⟨by omega, by omega, ?_⟩
      have f2 := iv_ar (a := 190) (s := 0) (t := 32) (lo := (-128 : Int)) (u := 127) (z := v1) hI (by decide +kernel) (by omega) (by omega)
      exact hQ (φ 190 ((v1).toNat)) φ hI (fr_rf) trivial
theorem sf_143_0_v {sc : List Int} {d : Nat} {φ : hf_F} {x : Nat} {Q : Option jm_V → hf_F → Nat → Prop} {v1 : Int}
    (H : hi v1 ∧ (v1 < 0 → Q (some (0, (-1 : Int))) φ x) ∧ (¬ v1 < 0 → hi v1 ∧ hi 4 ∧ (4 ≤ v1 → Q (some (0, (-1 : Int))) φ x) ∧ (¬ 4 ≤ v1 → 0 ≤ v1 ∧ v1 < 4 ∧ (Q (some (0, φ 191 ((v1).toNat))) φ x)))) :
    hw sc d 143 0 [(0, (2, 0)), (1, (0, v1))] [] φ x Q := by
  refine hw_ld (b := 1) (e := 0) (by decide +kernel) rfl ?_
  obtain ⟨hz1, ht1, hf1⟩ := H
  refine hw_if (a0 := 0) (b := 2) (e := 22) (by decide +kernel) hz1 (fun q => ?_) (fun q => ?_)
  · have H := ht1 q
    refine hw_k (c := (-1 : Int)) (b := 0) (e := 1) (by decide +kernel) ?_
    exact hw_ret (a0 := 0) (e := 0) (by decide +kernel) (Or.inl rfl) H
  · have H := hf1 q
    refine hw_ld (b := 1) (e := 0) (by decide +kernel) rfl ?_
    refine hw_ald (b := 0) (e := 0) (by decide +kernel) rfl (by decide) ?_
    refine hr_gr (w := 191) (b := 0) (e := 11) 0 rfl (by decide +kernel) ?_
    refine hr_len (n := 4) (a0 := 0) (b := 0) (e := 0) 191 rfl (by decide +kernel) ?_
    obtain ⟨hz3, hy3, ht3, hf3⟩ := H
    refine hw_if2 (a0 := 0) (b := 3) (e := 22) (by decide +kernel) hz3 hy3 (fun q => ?_) (fun q => ?_)
    · have H := ht3 q
      refine hw_k (c := (-1 : Int)) (b := 0) (e := 1) (by decide +kernel) ?_
      exact hw_ret (a0 := 0) (e := 0) (by decide +kernel) (Or.inl rfl) H
    · have H := hf3 q
      refine hw_ald (b := 0) (e := 0) (by decide +kernel) rfl (by decide) ?_
      refine hr_gr (w := 191) (b := 0) (e := 11) 0 rfl (by decide +kernel) ?_
      refine hw_ld (b := 1) (e := 0) (by decide +kernel) rfl ?_
      obtain ⟨hl5, hu5, H⟩ := H
      refine hr_al (b := 0) (a0 := 0) (e := 0) (n := 4) (w := φ 191 ((v1).toNat)) 191 rfl (by decide +kernel) (by decide) hl5 hu5 rfl ?_
      refine hw_goto (a0 := 0) (b := 0) (e := 23) (by decide +kernel) ?_
      exact hw_ret (a0 := 0) (e := 0) (by decide +kernel) (Or.inl rfl) H
theorem sf_143_0 {sc : List Int} {d : Nat} {φ : hf_F} {x : Nat} {Q : Option jm_V → hf_F → Nat → Prop} {v1 : Int} (hI : Inv φ) (h1a : (-2147483648 : Int) ≤ v1) (h1b : v1 ≤ 2147483647) (hQ : ∀ (r : Int) (ψ : hf_F), Inv ψ → Fr [] φ ψ → True → Q (some (0, r)) ψ x) : hw sc d 143 0 [(0, (2, 0)), (1, (0, v1))] [] φ x Q := by
  apply sf_143_0_v
  refine ⟨by unfold hi; omega, fun q1 => ?_, fun q1 => ?_⟩
  · skip
    exact hQ (-1 : Int) φ hI (fr_rf) trivial
  · skip
    refine ⟨by unfold hi; omega, by unfold hi; omega, fun q3 => ?_, fun q3 => ?_⟩
    · skip
      exact hQ (-1 : Int) φ hI (fr_rf) trivial
    · skip
      refine ⟨by omega, by omega, ?_⟩
      have f1 := iv_ar (a := 191) (s := 0) (t := 4) (lo := (-2147483648 : Int)) (u := 2147483647) (z := v1) hI (by decide +kernel) (by omega) (by omega)
      exact hQ (φ 191 ((v1).toNat)) φ hI (fr_rf) trivial
theorem sf_158_0_v {sc : List Int} {d : Nat} {φ : hf_F} {x : Nat} {Q : Option jm_V → hf_F → Nat → Prop} {v1 : Int}
    (H : hi v1 ∧ hi 5 ∧ (¬ v1 = 5 → hi v1 ∧ (v1 < 0 → Q (some (0, (-1 : Int))) φ x) ∧ (¬ v1 < 0 → hi v1 ∧ hi 5 ∧ (5 ≤ v1 → Q (some (0, (-1 : Int))) φ x) ∧ (¬ 5 ≤ v1 → 0 ≤ v1 ∧ v1 < 5 ∧ (Q (some (0, φ 6 ((v1).toNat))) φ x)))) ∧ (¬ (¬ v1 = 5) → Q (some (0, φ 1 2)) φ x)) :
    hw sc d 158 0 [(0, (2, 0)), (1, (0, v1))] [] φ x Q := by
  refine hw_ld (b := 1) (e := 0) (by decide +kernel) rfl ?_
  refine hw_k (c := 5) (b := 0) (e := 1) (by decide +kernel) ?_
  obtain ⟨hz1, hy1, ht1, hf1⟩ := H
  refine hw_if2 (a0 := 0) (b := 1) (e := 13) (by decide +kernel) hz1 hy1 (fun q => ?_) (fun q => ?_)
  · have H := ht1 q
    refine hw_ld (b := 1) (e := 0) (by decide +kernel) rfl ?_
    obtain ⟨hz2, ht2, hf2⟩ := H
    refine hw_if (a0 := 0) (b := 2) (e := 37) (by decide +kernel) hz2 (fun q => ?_) (fun q => ?_)
    · have H := ht2 q
      refine hw_k (c := (-1 : Int)) (b := 0) (e := 1) (by decide +kernel) ?_
      exact hw_ret (a0 := 0) (e := 0) (by decide +kernel) (Or.inl rfl) H
    · have H := hf2 q
      refine hw_ld (b := 1) (e := 0) (by decide +kernel) rfl ?_
      refine hw_k (c := 5) (b := 0) (e := 1) (by decide +kernel) ?_
      obtain ⟨hz4, hy4, ht4, hf4⟩ := H
      refine hw_if2 (a0 := 0) (b := 3) (e := 37) (by decide +kernel) hz4 hy4 (fun q => ?_) (fun q => ?_)
      · have H := ht4 q
        refine hw_k (c := (-1 : Int)) (b := 0) (e := 1) (by decide +kernel) ?_
        exact hw_ret (a0 := 0) (e := 0) (by decide +kernel) (Or.inl rfl) H
      · have H := hf4 q
        refine hw_ald (b := 0) (e := 0) (by decide +kernel) rfl (by decide) ?_
        refine hr_gr (w := 4) (b := 0) (e := 1) 0 rfl (by decide +kernel) ?_
        refine hr_gr (w := 5) (b := 2) (e := 0) 4 rfl (by decide +kernel) ?_
        refine hr_gr (w := 6) (b := 3) (e := 0) 5 rfl (by decide +kernel) ?_
        refine hw_ld (b := 1) (e := 0) (by decide +kernel) rfl ?_
        obtain ⟨hl6, hu6, H⟩ := H
        refine hr_al (b := 0) (a0 := 0) (e := 0) (n := 5) (w := φ 6 ((v1).toNat)) 6 rfl (by decide +kernel) (by decide) hl6 hu6 rfl ?_
        refine hw_goto (a0 := 0) (b := 0) (e := 38) (by decide +kernel) ?_
        exact hw_ret (a0 := 0) (e := 0) (by decide +kernel) (Or.inl rfl) H
  · have H := hf1 q
    refine hw_ald (b := 0) (e := 0) (by decide +kernel) rfl (by decide) ?_
    refine hr_gr (w := 1) (b := 0) (e := 0) 0 rfl (by decide +kernel) ?_
    refine hr_gi (w := φ 1 2) (b := 1) (e := 2) 1 rfl (by decide +kernel) rfl ?_
    exact hw_ret (a0 := 0) (e := 0) (by decide +kernel) (Or.inl rfl) H
theorem sf_158_0 {sc : List Int} {d : Nat} {φ : hf_F} {x : Nat} {Q : Option jm_V → hf_F → Nat → Prop} {v1 : Int} (hI : Inv φ) (h1a : (-2147483648 : Int) ≤ v1) (h1b : v1 ≤ 2147483647) (hQ : ∀ (r : Int) (ψ : hf_F), Inv ψ → Fr [] φ ψ → True → Q (some (0, r)) ψ x) : hw sc d 158 0 [(0, (2, 0)), (1, (0, v1))] [] φ x Q := by
  apply sf_158_0_v
  refine ⟨by unfold hi; omega, by unfold hi; omega, fun q1 => ?_, fun q1 => ?_⟩
  · skip
    refine ⟨by unfold hi; omega, fun q2 => ?_, fun q2 => ?_⟩
    · skip
      exact hQ (-1 : Int) φ hI (fr_rf) trivial
    · skip
      refine ⟨by unfold hi; omega, by unfold hi; omega, fun q4 => ?_, fun q4 => ?_⟩
      · skip
        exact hQ (-1 : Int) φ hI (fr_rf) trivial
      · skip
        refine ⟨by omega, by omega, ?_⟩
        have f1 := iv_arh (a := 6) (s := 0) (t := 5) (lo := 0) (u := 8) (z := v1) hI (by decide +kernel) (by omega) (by omega)
        exact hQ (φ 6 ((v1).toNat)) φ hI (fr_rf) trivial
  · skip
    have f2 := iv_at (a := 1) (k := 2) (lo := 0) (u := 940) hI (by decide +kernel)
    exact hQ (φ 1 2) φ hI (fr_rf) trivial
theorem sf_70_0_k1_3_v {sc : List Int} {d : Nat} {φ : hf_F} {x : Nat} {Q : Option jm_V → hf_F → Nat → Prop} {v2 : Int}
    (H : hi v2 ∧ (v2 < 0 → Q (some (0, 0)) φ x) ∧ (¬ v2 < 0 → hi v2 ∧ hi (φ 6 3) ∧ ((φ 6 3) ≤ v2 → Q (some (0, 0)) φ x) ∧ (¬ (φ 6 3) ≤ v2 → Q (some (0, 1)) φ x))) :
    hw sc d 70 0 [(0, (2, 0)), (1, (0, 3)), (2, (0, v2))] [] φ x Q := by
  refine hw_ld (b := 2) (e := 0) (by decide +kernel) rfl ?_
  obtain ⟨hz1, ht1, hf1⟩ := H
  refine hw_if (a0 := 0) (b := 2) (e := 24) (by decide +kernel) hz1 (fun q => ?_) (fun q => ?_)
  · have H := ht1 q
    refine hw_k (c := 0) (b := 0) (e := 1) (by decide +kernel) ?_
    exact hw_ret (a0 := 0) (e := 1) (by decide +kernel) (Or.inr ⟨rfl, by decide⟩) H
  · have H := hf1 q
    refine hw_ld (b := 2) (e := 0) (by decide +kernel) rfl ?_
    refine hw_ald (b := 0) (e := 0) (by decide +kernel) rfl (by decide) ?_
    refine hr_gr (w := 4) (b := 0) (e := 1) 0 rfl (by decide +kernel) ?_
    refine hr_gr (w := 5) (b := 2) (e := 0) 4 rfl (by decide +kernel) ?_
    refine hr_gr (w := 6) (b := 3) (e := 0) 5 rfl (by decide +kernel) ?_
    refine hw_ld (b := 1) (e := 0) (by decide +kernel) rfl ?_
    refine hr_al (b := 0) (a0 := 0) (e := 0) (n := 5) (w := φ 6 3) 6 rfl (by decide +kernel) (by decide) (by decide) (by decide) rfl ?_
    obtain ⟨hz3, hy3, ht3, hf3⟩ := H
    refine hw_if2 (a0 := 0) (b := 3) (e := 24) (by decide +kernel) hz3 hy3 (fun q => ?_) (fun q => ?_)
    · have H := ht3 q
      refine hw_k (c := 0) (b := 0) (e := 1) (by decide +kernel) ?_
      exact hw_ret (a0 := 0) (e := 1) (by decide +kernel) (Or.inr ⟨rfl, by decide⟩) H
    · have H := hf3 q
      refine hw_k (c := 1) (b := 0) (e := 1) (by decide +kernel) ?_
      refine hw_goto (a0 := 0) (b := 0) (e := 25) (by decide +kernel) ?_
      exact hw_ret (a0 := 0) (e := 1) (by decide +kernel) (Or.inr ⟨rfl, by decide⟩) H
theorem sf_70_0_k1_3 {sc : List Int} {d : Nat} {φ : hf_F} {x : Nat} {Q : Option jm_V → hf_F → Nat → Prop} {v2 : Int} (hI : Inv φ) (h2a : (-2147483648 : Int) ≤ v2) (h2b : v2 ≤ 2147483647) (hQ : ∀ (r : Int) (ψ : hf_F), Inv ψ → Fr [] φ ψ → 0 ≤ r ∧ r ≤ 1 ∧ (r = 1 → 0 ≤ v2 ∧ v2 < φ 6 3 ∧ φ 6 3 ≤ 6) → Q (some (0, r)) ψ x) : hw sc d 70 0 [(0, (2, 0)), (1, (0, 3)), (2, (0, v2))] [] φ x Q := by
  apply sf_70_0_k1_3_v
  refine ⟨by unfold hi; omega, fun q1 => ?_, fun q1 => ?_⟩
  · skip
    exact hQ 0 φ hI (fr_rf) ⟨by omega, by omega, by intros; omega⟩
  · skip
    have f1 := iv_at (a := 6) (k := 3) (lo := 0) (u := 6) hI (by decide +kernel)
    refine ⟨by unfold hi; omega, by unfold hi; omega, fun q3 => ?_, fun q3 => ?_⟩
    · skip
      exact hQ 0 φ hI (fr_rf) ⟨by omega, by omega, by intros; omega⟩
    · skip
      exact hQ 1 φ hI (fr_rf) ⟨by omega, by omega, by intros; omega⟩
theorem sf_71_17_v {sc : List Int} {d : Nat} {φ : hf_F} {x : Nat} {Q : Option jm_V → hf_F → Nat → Prop} {v1 v2 : Int}
    (H : 0 ≤ ((v1 * 6) + v2) ∧ ((v1 * 6) + v2) < 36 ∧ (Q (some (0, φ 22 (((v1 * 6) + v2).toNat))) φ x)) :
    hw sc d 71 0 [(0, (2, 17)), (1, (0, v1)), (2, (0, v2))] [] φ x Q := by
  refine hw_ald (b := 0) (e := 0) (by decide +kernel) rfl (by decide) ?_
  refine hr_gr (w := 22) (b := 4) (e := 10) 17 rfl (by decide +kernel) ?_
  refine hw_ld (b := 1) (e := 0) (by decide +kernel) rfl ?_
  refine hw_k (c := 6) (b := 1) (e := 2) (by decide +kernel) ?_
  refine hw_bin (w := v1 * 6) (a0 := 0) (b := 2) (e := 0) (by decide +kernel) rfl ?_
  refine hw_ld (b := 2) (e := 0) (by decide +kernel) rfl ?_
  refine hw_bin (w := (v1 * 6) + v2) (a0 := 0) (b := 0) (e := 0) (by decide +kernel) rfl ?_
  obtain ⟨hl1, hu1, H⟩ := H
  refine hr_al (b := 0) (a0 := 0) (e := 0) (n := 36) (w := φ 22 (((v1 * 6) + v2).toNat)) 22 rfl (by decide +kernel) (by decide) hl1 hu1 rfl ?_
  exact hw_ret (a0 := 0) (e := 0) (by decide +kernel) (Or.inl rfl) H
theorem sf_71_17 {sc : List Int} {d : Nat} {φ : hf_F} {x : Nat} {Q : Option jm_V → hf_F → Nat → Prop} {v1 v2 : Int} (hI : Inv φ) (h1a : 0 ≤ v1) (h1b : v1 ≤ 5) (h2a : 0 ≤ v2) (h2b : v2 ≤ 5) (hQ : ∀ (r : Int) (ψ : hf_F), Inv ψ → Fr [] φ ψ → 0 ≤ r ∧ r ≤ 7 → Q (some (0, r)) ψ x) : hw sc d 71 0 [(0, (2, 17)), (1, (0, v1)), (2, (0, v2))] [] φ x Q := by
  apply sf_71_17_v
  refine ⟨by omega, by omega, ?_⟩
  have f1 := iv_ar (a := 22) (s := 0) (t := 36) (lo := 0) (u := 7) (z := (v1 * 6) + v2) hI (by decide +kernel) (by omega) (by omega)
  exact hQ (φ 22 (((v1 * 6) + v2).toNat)) φ hI (fr_rf) ⟨by omega, by omega⟩
theorem sf_69_0_v {sc : List Int} {d : Nat} {φ : hf_F} {x : Nat} {Q : Option jm_V → hf_F → Nat → Prop} {v1 v2 : Int}
    (H : hw sc d 70 0 [(0, (2, 0)), (1, (0, 3)), (2, (0, v1))] [] φ x (fun r ψ1 y1 => y1 = x ∧ (∃ z1 : Int, r = some (0, z1) ∧ (hi z1 ∧ (z1 = 0 → Q (some (0, (-1 : Int))) ψ1 x) ∧ (¬ z1 = 0 → hi v2 ∧ (v2 < 0 → Q (some (0, (-1 : Int))) ψ1 x) ∧ (¬ v2 < 0 → 0 ≤ v1 ∧ v1 < 6 ∧ (hi v2 ∧ hi (ψ1 21 ((v1).toNat)) ∧ (v2 < (ψ1 21 ((v1).toNat)) → hw sc d 71 0 [(0, (2, 17)), (1, (0, v1)), (2, (0, v2))] [] ψ1 x (fun r ψ8 y8 => y8 = x ∧ (∃ z8 : Int, r = some (0, z8) ∧ (Q (some (0, z8)) ψ8 x)))) ∧ (¬ v2 < (ψ1 21 ((v1).toNat)) → Q (some (0, (-1 : Int))) ψ1 x)))))))) :
    hw sc (d + 1) 69 0 [(0, (2, 0)), (1, (0, v1)), (2, (0, v2))] [] φ x Q := by
  refine hw_ald (b := 0) (e := 0) (by decide +kernel) rfl (by decide) ?_
  refine hw_k (c := 3) (b := 0) (e := 1) (by decide +kernel) ?_
  refine hw_ld (b := 1) (e := 0) (by decide +kernel) rfl ?_
  refine hr_call (a0 := 10) (b := 70) (e := 3) (nl := 3) (As := [(0, 3), (0, v1)]) (R := []) 0 rfl (by decide +kernel) rfl rfl (Nat.le_of_ble_eq_true rfl) (Nat.le_of_ble_eq_true rfl) ?_
  refine hw_mono H ?_
  rintro r ψ1 y1 ⟨hyx, z1, hr, H⟩
  subst hyx
  subst hr
  refine ⟨hne0, ?_⟩
  show hw sc (d + 1) 69 6 [(0, (2, 0)), (1, (0, v1)), (2, (0, v2))] [(0, z1)] ψ1 y1 Q
  obtain ⟨hz2, ht2, hf2⟩ := H
  refine hw_if (a0 := 0) (b := 0) (e := 29) (by decide +kernel) hz2 (fun q => ?_) (fun q => ?_)
  · have H := ht2 q
    refine hw_k (c := (-1 : Int)) (b := 0) (e := 1) (by decide +kernel) ?_
    exact hw_ret (a0 := 0) (e := 0) (by decide +kernel) (Or.inl rfl) H
  · have H := hf2 q
    refine hw_ld (b := 2) (e := 0) (by decide +kernel) rfl ?_
    obtain ⟨hz4, ht4, hf4⟩ := H
    refine hw_if (a0 := 0) (b := 2) (e := 29) (by decide +kernel) hz4 (fun q => ?_) (fun q => ?_)
    · have H := ht4 q
      refine hw_k (c := (-1 : Int)) (b := 0) (e := 1) (by decide +kernel) ?_
      exact hw_ret (a0 := 0) (e := 0) (by decide +kernel) (Or.inl rfl) H
    · have H := hf4 q
      refine hw_ld (b := 2) (e := 0) (by decide +kernel) rfl ?_
      refine hw_ald (b := 0) (e := 0) (by decide +kernel) rfl (by decide) ?_
      refine hr_gr (w := 4) (b := 0) (e := 1) 0 rfl (by decide +kernel) ?_
      refine hr_gr (w := 17) (b := 2) (e := 1) 4 rfl (by decide +kernel) ?_
      refine hr_gr (w := 21) (b := 4) (e := 9) 17 rfl (by decide +kernel) ?_
      refine hw_ld (b := 1) (e := 0) (by decide +kernel) rfl ?_
      obtain ⟨hl6, hu6, H⟩ := H
      refine hr_al (b := 0) (a0 := 0) (e := 0) (n := 6) (w := ψ1 21 ((v1).toNat)) 21 rfl (by decide +kernel) (by decide) hl6 hu6 rfl ?_
      obtain ⟨hz7, hy7, ht7, hf7⟩ := H
      refine hw_if2 (a0 := 0) (b := 2) (e := 31) (by decide +kernel) hz7 hy7 (fun q => ?_) (fun q => ?_)
      · have H := ht7 q
        refine hw_ald (b := 0) (e := 0) (by decide +kernel) rfl (by decide) ?_
        refine hr_gr (w := 4) (b := 0) (e := 1) 0 rfl (by decide +kernel) ?_
        refine hr_gr (w := 17) (b := 2) (e := 1) 4 rfl (by decide +kernel) ?_
        refine hw_ld (b := 1) (e := 0) (by decide +kernel) rfl ?_
        refine hw_ld (b := 2) (e := 0) (by decide +kernel) rfl ?_
        refine hr_call (a0 := 14) (b := 71) (e := 3) (nl := 3) (As := [(0, v1), (0, v2)]) (R := []) 17 rfl (by decide +kernel) rfl rfl (Nat.le_of_ble_eq_true rfl) (Nat.le_of_ble_eq_true rfl) ?_
        refine hw_mono H ?_
        rintro r ψ8 y8 ⟨hyx, z8, hr, H⟩
        subst hyx
        subst hr
        refine ⟨hne0, ?_⟩
        show hw sc (d + 1) 69 43 [(0, (2, 0)), (1, (0, v1)), (2, (0, v2))] [(0, z8)] ψ8 y8 Q
        exact hw_ret (a0 := 0) (e := 0) (by decide +kernel) (Or.inl rfl) H
      · have H := hf7 q
        refine hw_k (c := (-1 : Int)) (b := 0) (e := 1) (by decide +kernel) ?_
        exact hw_ret (a0 := 0) (e := 0) (by decide +kernel) (Or.inl rfl) H
theorem sf_69_0 {sc : List Int} {d : Nat} {φ : hf_F} {x : Nat} {Q : Option jm_V → hf_F → Nat → Prop} {v1 v2 : Int} (hI : Inv φ) (h1a : (-2147483648 : Int) ≤ v1) (h1b : v1 ≤ 2147483647) (h2a : (-2147483648 : Int) ≤ v2) (h2b : v2 ≤ 2147483647) (hQ : ∀ (r : Int) (ψ : hf_F), Inv ψ → Fr [] φ ψ → True → Q (some (0, r)) ψ x) : hw sc (d + 1) 69 0 [(0, (2, 0)), (1, (0, v1)), (2, (0, v2))] [] φ x Q := by
  apply sf_69_0_v
  refine sf_70_0_k1_3 (φ := φ) hI (by omega) (by omega) (fun z1 ψ1 hI1 hF1 hp1 => ⟨rfl, z1, rfl, ?_⟩)
  have hG1 : Fr [] φ ψ1 := fr_tr (fr_rf) hF1 (by decide)
  refine ⟨by unfold hi; omega, fun q2 => ?_, fun q2 => ?_⟩
  · skip
    exact hQ (-1 : Int) ψ1 hI1 hG1 trivial
  · skip
    refine ⟨by unfold hi; omega, fun q4 => ?_, fun q4 => ?_⟩
    · skip
      exact hQ (-1 : Int) ψ1 hI1 hG1 trivial
    · skip
      refine ⟨by omega, by omega, ?_⟩
      have f1 := iv_ar (a := 21) (s := 0) (t := 6) (lo := 0) (u := 6) (z := v1) hI1 (by decide +kernel) (by omega) (by omega)
      have f2 : ψ1 21 ((v1).toNat) = φ 21 ((v1).toNat) := (hF1 21 (by decide) ((v1).toNat))
      have f3 := iv_ar (a := 21) (s := 0) (t := 6) (lo := 0) (u := 6) (z := v1) hI (by decide +kernel) (by omega) (by omega)
      refine ⟨by unfold hi; omega, by unfold hi; omega, fun q7 => ?_, fun q7 => ?_⟩
      · skip
        refine sf_71_17 (φ := ψ1) hI1 (by omega) (by omega) (by omega) (by omega) (fun z8 ψ8 hI8 hF8 hp8 => ⟨rfl, z8, rfl, ?_⟩)
        have hG8 : Fr [] φ ψ8 := fr_tr hG1 hF8 (by decide)
        exact hQ z8 ψ8 hI8 hG8 trivial
      · skip
        exact hQ (-1 : Int) ψ1 hI1 hG1 trivial
theorem sf_70_0_k1_1_v {sc : List Int} {d : Nat} {φ : hf_F} {x : Nat} {Q : Option jm_V → hf_F → Nat → Prop} {v2 : Int}
    (H : hi v2 ∧ (v2 < 0 → Q (some (0, 0)) φ x) ∧ (¬ v2 < 0 → hi v2 ∧ hi (φ 6 1) ∧ ((φ 6 1) ≤ v2 → Q (some (0, 0)) φ x) ∧ (¬ (φ 6 1) ≤ v2 → Q (some (0, 1)) φ x))) :
    hw sc d 70 0 [(0, (2, 0)), (1, (0, 1)), (2, (0, v2))] [] φ x Q := by
  refine hw_ld (b := 2) (e := 0) (by decide +kernel) rfl ?_
  obtain ⟨hz1, ht1, hf1⟩ := H
  refine hw_if (a0 := 0) (b := 2) (e := 24) (by decide +kernel) hz1 (fun q => ?_) (fun q => ?_)
  · have H := ht1 q
    refine hw_k (c := 0) (b := 0) (e := 1) (by decide +kernel) ?_
    exact hw_ret (a0 := 0) (e := 1) (by decide +kernel) (Or.inr ⟨rfl, by decide⟩) H
  · have H := hf1 q
    refine hw_ld (b := 2) (e := 0) (by decide +kernel) rfl ?_
    refine hw_ald (b := 0) (e := 0) (by decide +kernel) rfl (by decide) ?_
    refine hr_gr (w := 4) (b := 0) (e := 1) 0 rfl (by decide +kernel) ?_
    refine hr_gr (w := 5) (b := 2) (e := 0) 4 rfl (by decide +kernel) ?_
    refine hr_gr (w := 6) (b := 3) (e := 0) 5 rfl (by decide +kernel) ?_
    refine hw_ld (b := 1) (e := 0) (by decide +kernel) rfl ?_
    refine hr_al (b := 0) (a0 := 0) (e := 0) (n := 5) (w := φ 6 1) 6 rfl (by decide +kernel) (by decide) (by decide) (by decide) rfl ?_
    obtain ⟨hz3, hy3, ht3, hf3⟩ := H
    refine hw_if2 (a0 := 0) (b := 3) (e := 24) (by decide +kernel) hz3 hy3 (fun q => ?_) (fun q => ?_)
    · have H := ht3 q
      refine hw_k (c := 0) (b := 0) (e := 1) (by decide +kernel) ?_
      exact hw_ret (a0 := 0) (e := 1) (by decide +kernel) (Or.inr ⟨rfl, by decide⟩) H
    · have H := hf3 q
      refine hw_k (c := 1) (b := 0) (e := 1) (by decide +kernel) ?_
      refine hw_goto (a0 := 0) (b := 0) (e := 25) (by decide +kernel) ?_
      exact hw_ret (a0 := 0) (e := 1) (by decide +kernel) (Or.inr ⟨rfl, by decide⟩) H
theorem sf_70_0_k1_1 {sc : List Int} {d : Nat} {φ : hf_F} {x : Nat} {Q : Option jm_V → hf_F → Nat → Prop} {v2 : Int} (hI : Inv φ) (h2a : (-2147483648 : Int) ≤ v2) (h2b : v2 ≤ 2147483647) (hQ : ∀ (r : Int) (ψ : hf_F), Inv ψ → Fr [] φ ψ → 0 ≤ r ∧ r ≤ 1 ∧ (r = 1 → 0 ≤ v2 ∧ v2 < φ 6 1 ∧ φ 6 1 ≤ 8) → Q (some (0, r)) ψ x) : hw sc d 70 0 [(0, (2, 0)), (1, (0, 1)), (2, (0, v2))] [] φ x Q := by
  apply sf_70_0_k1_1_v
  refine ⟨by unfold hi; omega, fun q1 => ?_, fun q1 => ?_⟩
  · skip
    exact hQ 0 φ hI (fr_rf) ⟨by omega, by omega, by intros; omega⟩
  · skip
    have f1 := iv_at (a := 6) (k := 1) (lo := 0) (u := 8) hI (by decide +kernel)
    refine ⟨by unfold hi; omega, by unfold hi; omega, fun q3 => ?_, fun q3 => ?_⟩
    · skip
      exact hQ 0 φ hI (fr_rf) ⟨by omega, by omega, by intros; omega⟩
    · skip
      exact hQ 1 φ hI (fr_rf) ⟨by omega, by omega, by intros; omega⟩
theorem sf_72_0_v {sc : List Int} {d : Nat} {φ : hf_F} {x : Nat} {Q : Option jm_V → hf_F → Nat → Prop} {v1 v2 : Int}
    (H : hw sc d 70 0 [(0, (2, 0)), (1, (0, 1)), (2, (0, v1))] [] φ x (fun r ψ1 y1 => y1 = x ∧ (∃ z1 : Int, r = some (0, z1) ∧ (hi z1 ∧ (¬ z1 = 0 → hi v2 ∧ (v2 = 0 → 0 ≤ v1 ∧ v1 < 8 ∧ (Q (some (0, ψ1 10 ((v1).toNat))) ψ1 x)) ∧ (v2 = 1 → 0 ≤ v1 ∧ v1 < 8 ∧ (Q (some (0, ψ1 18 ((v1).toNat))) ψ1 x)) ∧ (v2 = 2 → 0 ≤ v1 ∧ v1 < 8 ∧ (Q (some (0, ψ1 19 ((v1).toNat))) ψ1 x)) ∧ ((v2 < 0 ∨ 3 ≤ v2) → Q (some (0, (-1 : Int))) ψ1 x)) ∧ (¬ (¬ z1 = 0) → Q (some (0, (-1 : Int))) ψ1 x))))) :
    hw sc (d + 1) 72 0 [(0, (2, 0)), (1, (0, v1)), (2, (0, v2))] [] φ x Q := by
  refine hw_ald (b := 0) (e := 0) (by decide +kernel) rfl (by decide) ?_
  refine hw_k (c := 1) (b := 0) (e := 1) (by decide +kernel) ?_
  refine hw_ld (b := 1) (e := 0) (by decide +kernel) rfl ?_
  refine hr_call (a0 := 10) (b := 70) (e := 3) (nl := 3) (As := [(0, 1), (0, v1)]) (R := []) 0 rfl (by decide +kernel) rfl rfl (Nat.le_of_ble_eq_true rfl) (Nat.le_of_ble_eq_true rfl) ?_
  refine hw_mono H ?_
  rintro r ψ1 y1 ⟨hyx, z1, hr, H⟩
  subst hyx
  subst hr
  refine ⟨hne0, ?_⟩
  show hw sc (d + 1) 72 6 [(0, (2, 0)), (1, (0, v1)), (2, (0, v2))] [(0, z1)] ψ1 y1 Q
  obtain ⟨hz2, ht2, hf2⟩ := H
  refine hw_if (a0 := 0) (b := 1) (e := 11) (by decide +kernel) hz2 (fun q => ?_) (fun q => ?_)
  · have H := ht2 q
    refine hw_ld (b := 2) (e := 0) (by decide +kernel) rfl ?_
    obtain ⟨hz3, H⟩ := H
    refine hr_tsw (T := [40, 53, 66]) (lo := 0) (nn := 3) (b := 79) (e := 1) (by decide +kernel) rfl hz3 ?_ ?_
    · intro q
      have H := H.2.2.2 q
      refine hw_k (c := (-1 : Int)) (b := 0) (e := 1) (by decide +kernel) ?_
      exact hw_ret (a0 := 0) (e := 0) (by decide +kernel) (Or.inl rfl) H
    · intro kq tq htq hzq
      match kq, htq, hzq with
      | 0, htq, hzq =>
        cases htq
        have H := H.1 (by omega)
        refine hw_ald (b := 0) (e := 0) (by decide +kernel) rfl (by decide) ?_
        refine hr_gr (w := 4) (b := 0) (e := 1) 0 rfl (by decide +kernel) ?_
        refine hr_gr (w := 5) (b := 2) (e := 0) 4 rfl (by decide +kernel) ?_
        refine hr_gr (w := 10) (b := 3) (e := 4) 5 rfl (by decide +kernel) ?_
        refine hw_ld (b := 1) (e := 0) (by decide +kernel) rfl ?_
        obtain ⟨hl4, hu4, H⟩ := H
        refine hr_al (b := 0) (a0 := 0) (e := 0) (n := 8) (w := ψ1 10 ((v1).toNat)) 10 rfl (by decide +kernel) (by decide) hl4 hu4 rfl ?_
        exact hw_ret (a0 := 0) (e := 0) (by decide +kernel) (Or.inl rfl) H
      | 1, htq, hzq =>
        cases htq
        have H := H.2.1 (by omega)
        refine hw_ald (b := 0) (e := 0) (by decide +kernel) rfl (by decide) ?_
        refine hr_gr (w := 4) (b := 0) (e := 1) 0 rfl (by decide +kernel) ?_
        refine hr_gr (w := 17) (b := 2) (e := 1) 4 rfl (by decide +kernel) ?_
        refine hr_gr (w := 18) (b := 4) (e := 6) 17 rfl (by decide +kernel) ?_
        refine hw_ld (b := 1) (e := 0) (by decide +kernel) rfl ?_
        obtain ⟨hl6, hu6, H⟩ := H
        refine hr_al (b := 0) (a0 := 0) (e := 0) (n := 8) (w := ψ1 18 ((v1).toNat)) 18 rfl (by decide +kernel) (by decide) hl6 hu6 rfl ?_
        exact hw_ret (a0 := 0) (e := 0) (by decide +kernel) (Or.inl rfl) H
      | 2, htq, hzq =>
        cases htq
        have H := H.2.2.1 (by omega)
        refine hw_ald (b := 0) (e := 0) (by decide +kernel) rfl (by decide) ?_
        refine hr_gr (w := 4) (b := 0) (e := 1) 0 rfl (by decide +kernel) ?_
        refine hr_gr (w := 17) (b := 2) (e := 1) 4 rfl (by decide +kernel) ?_
        refine hr_gr (w := 19) (b := 4) (e := 7) 17 rfl (by decide +kernel) ?_
        refine hw_ld (b := 1) (e := 0) (by decide +kernel) rfl ?_
        obtain ⟨hl8, hu8, H⟩ := H
        refine hr_al (b := 0) (a0 := 0) (e := 0) (n := 8) (w := ψ1 19 ((v1).toNat)) 19 rfl (by decide +kernel) (by decide) hl8 hu8 rfl ?_
        exact hw_ret (a0 := 0) (e := 0) (by decide +kernel) (Or.inl rfl) H
      | kq + 3, htq, _ => cases htq
  · have H := hf2 q
    refine hw_k (c := (-1 : Int)) (b := 0) (e := 1) (by decide +kernel) ?_
    exact hw_ret (a0 := 0) (e := 0) (by decide +kernel) (Or.inl rfl) H
theorem sf_72_0 {sc : List Int} {d : Nat} {φ : hf_F} {x : Nat} {Q : Option jm_V → hf_F → Nat → Prop} {v1 v2 : Int} (hI : Inv φ) (h1a : (-2147483648 : Int) ≤ v1) (h1b : v1 ≤ 2147483647) (h2a : (-2147483648 : Int) ≤ v2) (h2b : v2 ≤ 2147483647) (hQ : ∀ (r : Int) (ψ : hf_F), Inv ψ → Fr [] φ ψ → True → Q (some (0, r)) ψ x) : hw sc (d + 1) 72 0 [(0, (2, 0)), (1, (0, v1)), (2, (0, v2))] [] φ x Q := by
  apply sf_72_0_v
  refine sf_70_0_k1_1 (φ := φ) hI (by omega) (by omega) (fun z1 ψ1 hI1 hF1 hp1 => ⟨rfl, z1, rfl, ?_⟩)
  have hG1 : Fr [] φ ψ1 := fr_tr (fr_rf) hF1 (by decide)
  refine ⟨by unfold hi; omega, fun q2 => ?_, fun q2 => ?_⟩
  · skip
    refine ⟨by unfold hi; omega, fun q3 => ?_, fun q3 => ?_, fun q3 => ?_, fun q3 => ?_⟩
    · skip
      refine ⟨by omega, by omega, ?_⟩
      have f1 := iv_ar (a := 10) (s := 0) (t := 8) (lo := 0) (u := 2) (z := v1) hI1 (by decide +kernel) (by omega) (by omega)
      have f2 : ψ1 10 ((v1).toNat) = φ 10 ((v1).toNat) := (hF1 10 (by decide) ((v1).toNat))
      have f3 := iv_ar (a := 10) (s := 0) (t := 8) (lo := 0) (u := 2) (z := v1) hI (by decide +kernel) (by omega) (by omega)
      exact hQ (ψ1 10 ((v1).toNat)) ψ1 hI1 hG1 trivial
    · skip
      refine ⟨by omega, by omega, ?_⟩
      have f4 := iv_ar (a := 18) (s := 0) (t := 8) (lo := 0) (u := 29) (z := v1) hI1 (by decide +kernel) (by omega) (by omega)
      have f5 : ψ1 18 ((v1).toNat) = φ 18 ((v1).toNat) := (hF1 18 (by decide) ((v1).toNat))
      have f6 := iv_ar (a := 18) (s := 0) (t := 8) (lo := 0) (u := 29) (z := v1) hI (by decide +kernel) (by omega) (by omega)
      exact hQ (ψ1 18 ((v1).toNat)) ψ1 hI1 hG1 trivial
    · skip
      refine ⟨by omega, by omega, ?_⟩
      have f7 := iv_ar (a := 19) (s := 0) (t := 8) (lo := (-1 : Int)) (u := 5) (z := v1) hI1 (by decide +kernel) (by omega) (by omega)
      have f8 : ψ1 19 ((v1).toNat) = φ 19 ((v1).toNat) := (hF1 19 (by decide) ((v1).toNat))
      have f9 := iv_ar (a := 19) (s := 0) (t := 8) (lo := (-1 : Int)) (u := 5) (z := v1) hI (by decide +kernel) (by omega) (by omega)
      exact hQ (ψ1 19 ((v1).toNat)) ψ1 hI1 hG1 trivial
    · skip
      exact hQ (-1 : Int) ψ1 hI1 hG1 trivial
  · skip
    exact hQ (-1 : Int) ψ1 hI1 hG1 trivial
theorem sf_70_0_k1_4_v {sc : List Int} {d : Nat} {φ : hf_F} {x : Nat} {Q : Option jm_V → hf_F → Nat → Prop} {v2 : Int}
    (H : hi v2 ∧ (v2 < 0 → Q (some (0, 0)) φ x) ∧ (¬ v2 < 0 → hi v2 ∧ hi (φ 6 4) ∧ ((φ 6 4) ≤ v2 → Q (some (0, 0)) φ x) ∧ (¬ (φ 6 4) ≤ v2 → Q (some (0, 1)) φ x))) :
    hw sc d 70 0 [(0, (2, 0)), (1, (0, 4)), (2, (0, v2))] [] φ x Q := by
  refine hw_ld (b := 2) (e := 0) (by decide +kernel) rfl ?_
  obtain ⟨hz1, ht1, hf1⟩ := H
  refine hw_if (a0 := 0) (b := 2) (e := 24) (by decide +kernel) hz1 (fun q => ?_) (fun q => ?_)
  · have H := ht1 q
    refine hw_k (c := 0) (b := 0) (e := 1) (by decide +kernel) ?_
    exact hw_ret (a0 := 0) (e := 1) (by decide +kernel) (Or.inr ⟨rfl, by decide⟩) H
  · have H := hf1 q
    refine hw_ld (b := 2) (e := 0) (by decide +kernel) rfl ?_
    refine hw_ald (b := 0) (e := 0) (by decide +kernel) rfl (by decide) ?_
    refine hr_gr (w := 4) (b := 0) (e := 1) 0 rfl (by decide +kernel) ?_
    refine hr_gr (w := 5) (b := 2) (e := 0) 4 rfl (by decide +kernel) ?_
    refine hr_gr (w := 6) (b := 3) (e := 0) 5 rfl (by decide +kernel) ?_
    refine hw_ld (b := 1) (e := 0) (by decide +kernel) rfl ?_
    refine hr_al (b := 0) (a0 := 0) (e := 0) (n := 5) (w := φ 6 4) 6 rfl (by decide +kernel) (by decide) (by decide) (by decide) rfl ?_
    obtain ⟨hz3, hy3, ht3, hf3⟩ := H
    refine hw_if2 (a0 := 0) (b := 3) (e := 24) (by decide +kernel) hz3 hy3 (fun q => ?_) (fun q => ?_)
    · have H := ht3 q
      refine hw_k (c := 0) (b := 0) (e := 1) (by decide +kernel) ?_
      exact hw_ret (a0 := 0) (e := 1) (by decide +kernel) (Or.inr ⟨rfl, by decide⟩) H
    · have H := hf3 q
      refine hw_k (c := 1) (b := 0) (e := 1) (by decide +kernel) ?_
      refine hw_goto (a0 := 0) (b := 0) (e := 25) (by decide +kernel) ?_
      exact hw_ret (a0 := 0) (e := 1) (by decide +kernel) (Or.inr ⟨rfl, by decide⟩) H
theorem sf_70_0_k1_4 {sc : List Int} {d : Nat} {φ : hf_F} {x : Nat} {Q : Option jm_V → hf_F → Nat → Prop} {v2 : Int} (hI : Inv φ) (h2a : (-2147483648 : Int) ≤ v2) (h2b : v2 ≤ 2147483647) (hQ : ∀ (r : Int) (ψ : hf_F), Inv ψ → Fr [] φ ψ → 0 ≤ r ∧ r ≤ 1 ∧ (r = 1 → 0 ≤ v2 ∧ v2 < φ 6 4 ∧ φ 6 4 ≤ 8) → Q (some (0, r)) ψ x) : hw sc d 70 0 [(0, (2, 0)), (1, (0, 4)), (2, (0, v2))] [] φ x Q := by
  apply sf_70_0_k1_4_v
  refine ⟨by unfold hi; omega, fun q1 => ?_, fun q1 => ?_⟩
  · skip
    exact hQ 0 φ hI (fr_rf) ⟨by omega, by omega, by intros; omega⟩
  · skip
    have f1 := iv_at (a := 6) (k := 4) (lo := 0) (u := 8) hI (by decide +kernel)
    refine ⟨by unfold hi; omega, by unfold hi; omega, fun q3 => ?_, fun q3 => ?_⟩
    · skip
      exact hQ 0 φ hI (fr_rf) ⟨by omega, by omega, by intros; omega⟩
    · skip
      exact hQ 1 φ hI (fr_rf) ⟨by omega, by omega, by intros; omega⟩
theorem sf_74_17_v {sc : List Int} {d : Nat} {φ : hf_F} {x : Nat} {Q : Option jm_V → hf_F → Nat → Prop} {v1 : Int}
    (H : hi (hb_and (hb_shr (φ 17 3) v1) 1) ∧ ((hb_and (hb_shr (φ 17 3) v1) 1) = 0 → Q (some (0, 0)) φ x) ∧ (¬ (hb_and (hb_shr (φ 17 3) v1) 1) = 0 → Q (some (0, 1)) φ x)) :
    hw sc d 74 0 [(0, (2, 17)), (1, (0, v1))] [] φ x Q := by
  refine hw_ald (b := 0) (e := 0) (by decide +kernel) rfl (by decide) ?_
  refine hr_gi (w := φ 17 3) (b := 4) (e := 3) 17 rfl (by decide +kernel) rfl ?_
  refine hw_ld (b := 1) (e := 0) (by decide +kernel) rfl ?_
  refine hw_bin (w := hb_shr (φ 17 3) v1) (a0 := 0) (b := 7) (e := 0) (by decide +kernel) rfl ?_
  refine hw_k (c := 1) (b := 0) (e := 1) (by decide +kernel) ?_
  refine hw_bin (w := hb_and (hb_shr (φ 17 3) v1) 1) (a0 := 0) (b := 3) (e := 0) (by decide +kernel) rfl ?_
  obtain ⟨hz1, ht1, hf1⟩ := H
  refine hw_if (a0 := 0) (b := 0) (e := 15) (by decide +kernel) hz1 (fun q => ?_) (fun q => ?_)
  · have H := ht1 q
    refine hw_k (c := 0) (b := 0) (e := 1) (by decide +kernel) ?_
    exact hw_ret (a0 := 0) (e := 1) (by decide +kernel) (Or.inr ⟨rfl, by decide⟩) H
  · have H := hf1 q
    refine hw_k (c := 1) (b := 0) (e := 1) (by decide +kernel) ?_
    refine hw_goto (a0 := 0) (b := 0) (e := 16) (by decide +kernel) ?_
    exact hw_ret (a0 := 0) (e := 1) (by decide +kernel) (Or.inr ⟨rfl, by decide⟩) H
theorem sf_74_17 {sc : List Int} {d : Nat} {φ : hf_F} {x : Nat} {Q : Option jm_V → hf_F → Nat → Prop} {v1 : Int} (hI : Inv φ) (h1a : 0 ≤ v1) (h1b : v1 ≤ 7) (hQ : ∀ (r : Int) (ψ : hf_F), Inv ψ → Fr [] φ ψ → 0 ≤ r ∧ r ≤ 1 → Q (some (0, r)) ψ x) : hw sc d 74 0 [(0, (2, 17)), (1, (0, v1))] [] φ x Q := by
  apply sf_74_17_v
  have f1 := iv_at (a := 17) (k := 3) (lo := (-2147483648 : Int)) (u := 2147483647) hI (by decide +kernel)
  have f2 := hr_shr (φ 17 3) v1
  have f3 := hr_and1 (hb_shr (φ 17 3) v1)
  have f4 := hr_and (hb_shr (φ 17 3) v1) 1
  refine ⟨by unfold hi; omega, fun q1 => ?_, fun q1 => ?_⟩
  · skip
    exact hQ 0 φ hI (fr_rf) ⟨by omega, by omega⟩
  · skip
    exact hQ 1 φ hI (fr_rf) ⟨by omega, by omega⟩
theorem sf_73_0_v {sc : List Int} {d : Nat} {φ : hf_F} {x : Nat} {Q : Option jm_V → hf_F → Nat → Prop} {v1 v2 : Int}
    (H : hw sc d 70 0 [(0, (2, 0)), (1, (0, 4)), (2, (0, v1))] [] φ x (fun r ψ1 y1 => y1 = x ∧ (∃ z1 : Int, r = some (0, z1) ∧ (hi z1 ∧ (¬ z1 = 0 → hi v2 ∧ (v2 = 0 → 0 ≤ v1 ∧ v1 < 8 ∧ (Q (some (0, ψ1 13 ((v1).toNat))) ψ1 x)) ∧ (v2 = 1 → 0 ≤ v1 ∧ v1 < 8 ∧ (Q (some (0, ψ1 14 ((v1).toNat))) ψ1 x)) ∧ (v2 = 2 → hw sc d 74 0 [(0, (2, 17)), (1, (0, v1))] [] ψ1 x (fun r ψ8 y8 => y8 = x ∧ (∃ z8 : Int, r = some (0, z8) ∧ (hi z8 ∧ (z8 = 0 → Q (some (0, 0)) ψ8 x) ∧ (¬ z8 = 0 → Q (some (0, 1)) ψ8 x))))) ∧ (v2 = 3 → 0 ≤ v1 ∧ v1 < 8 ∧ (Q (some (0, ψ1 15 ((v1).toNat))) ψ1 x)) ∧ (v2 = 4 → 0 ≤ v1 ∧ v1 < 8 ∧ (Q (some (0, ψ1 25 ((v1).toNat))) ψ1 x)) ∧ ((v2 < 0 ∨ 5 ≤ v2) → Q (some (0, (-1 : Int))) ψ1 x)) ∧ (¬ (¬ z1 = 0) → Q (some (0, (-1 : Int))) ψ1 x))))) :
    hw sc (d + 1) 73 0 [(0, (2, 0)), (1, (0, v1)), (2, (0, v2))] [] φ x Q := by
  refine hw_ald (b := 0) (e := 0) (by decide +kernel) rfl (by decide) ?_
  refine hw_k (c := 4) (b := 0) (e := 1) (by decide +kernel) ?_
  refine hw_ld (b := 1) (e := 0) (by decide +kernel) rfl ?_
  refine hr_call (a0 := 10) (b := 70) (e := 3) (nl := 3) (As := [(0, 4), (0, v1)]) (R := []) 0 rfl (by decide +kernel) rfl rfl (Nat.le_of_ble_eq_true rfl) (Nat.le_of_ble_eq_true rfl) ?_
  refine hw_mono H ?_
  rintro r ψ1 y1 ⟨hyx, z1, hr, H⟩
  subst hyx
  subst hr
  refine ⟨hne0, ?_⟩
  show hw sc (d + 1) 73 6 [(0, (2, 0)), (1, (0, v1)), (2, (0, v2))] [(0, z1)] ψ1 y1 Q
  obtain ⟨hz2, ht2, hf2⟩ := H
  refine hw_if (a0 := 0) (b := 1) (e := 11) (by decide +kernel) hz2 (fun q => ?_) (fun q => ?_)
  · have H := ht2 q
    refine hw_ld (b := 2) (e := 0) (by decide +kernel) rfl ?_
    obtain ⟨hz3, H⟩ := H
    refine hr_tsw (T := [48, 61, 74, 94, 107]) (lo := 0) (nn := 5) (b := 120) (e := 2) (by decide +kernel) rfl hz3 ?_ ?_
    · intro q
      have H := H.2.2.2.2.2 q
      refine hw_k (c := (-1 : Int)) (b := 0) (e := 1) (by decide +kernel) ?_
      exact hw_ret (a0 := 0) (e := 0) (by decide +kernel) (Or.inl rfl) H
    · intro kq tq htq hzq
      match kq, htq, hzq with
      | 0, htq, hzq =>
        cases htq
        have H := H.1 (by omega)
        refine hw_ald (b := 0) (e := 0) (by decide +kernel) rfl (by decide) ?_
        refine hr_gr (w := 4) (b := 0) (e := 1) 0 rfl (by decide +kernel) ?_
        refine hr_gr (w := 5) (b := 2) (e := 0) 4 rfl (by decide +kernel) ?_
        refine hr_gr (w := 13) (b := 3) (e := 7) 5 rfl (by decide +kernel) ?_
        refine hw_ld (b := 1) (e := 0) (by decide +kernel) rfl ?_
        obtain ⟨hl4, hu4, H⟩ := H
        refine hr_al (b := 0) (a0 := 0) (e := 0) (n := 8) (w := ψ1 13 ((v1).toNat)) 13 rfl (by decide +kernel) (by decide) hl4 hu4 rfl ?_
        exact hw_ret (a0 := 0) (e := 0) (by decide +kernel) (Or.inl rfl) H
      | 1, htq, hzq =>
        cases htq
        have H := H.2.1 (by omega)
        refine hw_ald (b := 0) (e := 0) (by decide +kernel) rfl (by decide) ?_
        refine hr_gr (w := 4) (b := 0) (e := 1) 0 rfl (by decide +kernel) ?_
        refine hr_gr (w := 5) (b := 2) (e := 0) 4 rfl (by decide +kernel) ?_
        refine hr_gr (w := 14) (b := 3) (e := 8) 5 rfl (by decide +kernel) ?_
        refine hw_ld (b := 1) (e := 0) (by decide +kernel) rfl ?_
        obtain ⟨hl6, hu6, H⟩ := H
        refine hr_al (b := 0) (a0 := 0) (e := 0) (n := 8) (w := ψ1 14 ((v1).toNat)) 14 rfl (by decide +kernel) (by decide) hl6 hu6 rfl ?_
        exact hw_ret (a0 := 0) (e := 0) (by decide +kernel) (Or.inl rfl) H
      | 2, htq, hzq =>
        cases htq
        have H := H.2.2.1 (by omega)
        refine hw_ald (b := 0) (e := 0) (by decide +kernel) rfl (by decide) ?_
        refine hr_gr (w := 4) (b := 0) (e := 1) 0 rfl (by decide +kernel) ?_
        refine hr_gr (w := 17) (b := 2) (e := 1) 4 rfl (by decide +kernel) ?_
        refine hw_ld (b := 1) (e := 0) (by decide +kernel) rfl ?_
        refine hr_call (a0 := 14) (b := 74) (e := 2) (nl := 2) (As := [(0, v1)]) (R := []) 17 rfl (by decide +kernel) rfl rfl (Nat.le_of_ble_eq_true rfl) (Nat.le_of_ble_eq_true rfl) ?_
        refine hw_mono H ?_
        rintro r ψ8 y8 ⟨hyx, z8, hr, H⟩
        subst hyx
        subst hr
        refine ⟨hne0, ?_⟩
        show hw sc (d + 1) 73 85 [(0, (2, 0)), (1, (0, v1)), (2, (0, v2))] [(0, z8)] ψ8 y8 Q
        obtain ⟨hz9, ht9, hf9⟩ := H
        refine hw_if (a0 := 0) (b := 0) (e := 92) (by decide +kernel) hz9 (fun q => ?_) (fun q => ?_)
        · have H := ht9 q
          refine hw_k (c := 0) (b := 0) (e := 1) (by decide +kernel) ?_
          exact hw_ret (a0 := 0) (e := 0) (by decide +kernel) (Or.inl rfl) H
        · have H := hf9 q
          refine hw_k (c := 1) (b := 0) (e := 1) (by decide +kernel) ?_
          refine hw_goto (a0 := 0) (b := 0) (e := 93) (by decide +kernel) ?_
          exact hw_ret (a0 := 0) (e := 0) (by decide +kernel) (Or.inl rfl) H
      | 3, htq, hzq =>
        cases htq
        have H := H.2.2.2.1 (by omega)
        refine hw_ald (b := 0) (e := 0) (by decide +kernel) rfl (by decide) ?_
        refine hr_gr (w := 4) (b := 0) (e := 1) 0 rfl (by decide +kernel) ?_
        refine hr_gr (w := 5) (b := 2) (e := 0) 4 rfl (by decide +kernel) ?_
        refine hr_gr (w := 15) (b := 3) (e := 9) 5 rfl (by decide +kernel) ?_
        refine hw_ld (b := 1) (e := 0) (by decide +kernel) rfl ?_
        obtain ⟨hl12, hu12, H⟩ := H
        refine hr_al (b := 0) (a0 := 0) (e := 0) (n := 8) (w := ψ1 15 ((v1).toNat)) 15 rfl (by decide +kernel) (by decide) hl12 hu12 rfl ?_
        exact hw_ret (a0 := 0) (e := 0) (by decide +kernel) (Or.inl rfl) H
      | 4, htq, hzq =>
        cases htq
        have H := H.2.2.2.2.1 (by omega)
        refine hw_ald (b := 0) (e := 0) (by decide +kernel) rfl (by decide) ?_
        refine hr_gr (w := 4) (b := 0) (e := 1) 0 rfl (by decide +kernel) ?_
        refine hr_gr (w := 17) (b := 2) (e := 1) 4 rfl (by decide +kernel) ?_
        refine hr_gr (w := 25) (b := 4) (e := 13) 17 rfl (by decide +kernel) ?_
        refine hw_ld (b := 1) (e := 0) (by decide +kernel) rfl ?_
        obtain ⟨hl14, hu14, H⟩ := H
        refine hr_al (b := 0) (a0 := 0) (e := 0) (n := 8) (w := ψ1 25 ((v1).toNat)) 25 rfl (by decide +kernel) (by decide) hl14 hu14 rfl ?_
        exact hw_ret (a0 := 0) (e := 0) (by decide +kernel) (Or.inl rfl) H
      | kq + 5, htq, _ => cases htq
  · have H := hf2 q
    refine hw_k (c := (-1 : Int)) (b := 0) (e := 1) (by decide +kernel) ?_
    exact hw_ret (a0 := 0) (e := 0) (by decide +kernel) (Or.inl rfl) H
theorem sf_73_0 {sc : List Int} {d : Nat} {φ : hf_F} {x : Nat} {Q : Option jm_V → hf_F → Nat → Prop} {v1 v2 : Int} (hI : Inv φ) (h1a : (-2147483648 : Int) ≤ v1) (h1b : v1 ≤ 2147483647) (h2a : (-2147483648 : Int) ≤ v2) (h2b : v2 ≤ 2147483647) (hQ : ∀ (r : Int) (ψ : hf_F), Inv ψ → Fr [] φ ψ → True → Q (some (0, r)) ψ x) : hw sc (d + 1) 73 0 [(0, (2, 0)), (1, (0, v1)), (2, (0, v2))] [] φ x Q := by
  apply sf_73_0_v
  refine sf_70_0_k1_4 (φ := φ) hI (by omega) (by omega) (fun z1 ψ1 hI1 hF1 hp1 => ⟨rfl, z1, rfl, ?_⟩)
  have hG1 : Fr [] φ ψ1 := fr_tr (fr_rf) hF1 (by decide)
  refine ⟨by unfold hi; omega, fun q2 => ?_, fun q2 => ?_⟩
  · skip
    refine ⟨by unfold hi; omega, fun q3 => ?_, fun q3 => ?_, fun q3 => ?_, fun q3 => ?_, fun q3 => ?_, fun q3 => ?_⟩
    · skip
      refine ⟨by omega, by omega, ?_⟩
      have f1 := iv_ar (a := 13) (s := 0) (t := 8) (lo := 0) (u := 7) (z := v1) hI1 (by decide +kernel) (by omega) (by omega)
      have f2 : ψ1 13 ((v1).toNat) = φ 13 ((v1).toNat) := (hF1 13 (by decide) ((v1).toNat))
      have f3 := iv_ar (a := 13) (s := 0) (t := 8) (lo := 0) (u := 7) (z := v1) hI (by decide +kernel) (by omega) (by omega)
      exact hQ (ψ1 13 ((v1).toNat)) ψ1 hI1 hG1 trivial
    · skip
      refine ⟨by omega, by omega, ?_⟩
      have f4 := iv_ar (a := 14) (s := 0) (t := 8) (lo := 0) (u := 7) (z := v1) hI1 (by decide +kernel) (by omega) (by omega)
      have f5 : ψ1 14 ((v1).toNat) = φ 14 ((v1).toNat) := (hF1 14 (by decide) ((v1).toNat))
      have f6 := iv_ar (a := 14) (s := 0) (t := 8) (lo := 0) (u := 7) (z := v1) hI (by decide +kernel) (by omega) (by omega)
      exact hQ (ψ1 14 ((v1).toNat)) ψ1 hI1 hG1 trivial
    · skip
      refine sf_74_17 (φ := ψ1) hI1 (by omega) (by omega) (fun z8 ψ8 hI8 hF8 hp8 => ⟨rfl, z8, rfl, ?_⟩)
      have hG8 : Fr [] φ ψ8 := fr_tr hG1 hF8 (by decide)
      refine ⟨by unfold hi; omega, fun q9 => ?_, fun q9 => ?_⟩
      · skip
        exact hQ 0 ψ8 hI8 hG8 trivial
      · skip
        exact hQ 1 ψ8 hI8 hG8 trivial
    · skip
      refine ⟨by omega, by omega, ?_⟩
      have f7 := iv_ar (a := 15) (s := 0) (t := 8) (lo := (-2147483648 : Int)) (u := 2147483647) (z := v1) hI1 (by decide +kernel) (by omega) (by omega)
      have f8 : ψ1 15 ((v1).toNat) = φ 15 ((v1).toNat) := (hF1 15 (by decide) ((v1).toNat))
      have f9 := iv_ar (a := 15) (s := 0) (t := 8) (lo := (-2147483648 : Int)) (u := 2147483647) (z := v1) hI (by decide +kernel) (by omega) (by omega)
      exact hQ (ψ1 15 ((v1).toNat)) ψ1 hI1 hG1 trivial
    · skip
      refine ⟨by omega, by omega, ?_⟩
      have f10 : ψ1 25 ((v1).toNat) = φ 25 ((v1).toNat) := (hF1 25 (by decide) ((v1).toNat))
      exact hQ (ψ1 25 ((v1).toNat)) ψ1 hI1 hG1 trivial
    · skip
      exact hQ (-1 : Int) ψ1 hI1 hG1 trivial
  · skip
    exact hQ (-1 : Int) ψ1 hI1 hG1 trivial
theorem sf_76_0_v4 {sc : List Int} {d : Nat} {φ : hf_F} {x : Nat} {Q : Option jm_V → hf_F → Nat → Prop} {L : jm_L} {l1 l2 : Int} (g0 : jm_get L 0 = some (2, 0)) (g1 : jm_get L 1 = some (0, l1)) (g2 : jm_get L 2 = some (0, l2))
    (H : hi l2 ∧ hi (φ 6 1) ∧ ((φ 6 1) ≤ l2 → Q (some (0, l1)) φ x) ∧ (¬ (φ 6 1) ≤ l2 → 0 ≤ l2 ∧ l2 < 8 ∧ (hi (φ 18 ((l2).toNat)) ∧ (¬ (φ 18 ((l2).toNat)) = 0 → hw sc d 76 4 (jm_st1 L 2 (0, l2 + 1)) [] φ x Q) ∧ (¬ (¬ (φ 18 ((l2).toNat)) = 0) → hw sc d 76 4 (jm_st1 (jm_st1 L 1 (0, hb_or l1 (hb_shl 1 l2))) 2 (0, l2 + 1)) [] φ x Q)))) :
    hw sc d 76 4 L [] φ x Q := by
  refine hw_ld (b := 2) (e := 0) (by decide +kernel) g2 ?_
  refine hw_ald (b := 0) (e := 0) (by decide +kernel) g0 (by decide) ?_
  refine hr_gr (w := 4) (b := 0) (e := 1) 0 rfl (by decide +kernel) ?_
  refine hr_gr (w := 5) (b := 2) (e := 0) 4 rfl (by decide +kernel) ?_
  refine hr_gr (w := 6) (b := 3) (e := 0) 5 rfl (by decide +kernel) ?_
  refine hw_k (c := 1) (b := 0) (e := 1) (by decide +kernel) ?_
  refine hr_al (b := 0) (a0 := 0) (e := 0) (n := 5) (w := φ 6 1) 6 rfl (by decide +kernel) (by decide) (by decide) (by decide) rfl ?_
  obtain ⟨hz1, hy1, ht1, hf1⟩ := H
  refine hw_if2 (a0 := 0) (b := 3) (e := 47) (by decide +kernel) hz1 hy1 (fun q => ?_) (fun q => ?_)
  · have H := ht1 q
    refine hw_ld (b := 1) (e := 0) (by decide +kernel) g1 ?_
    exact hw_ret (a0 := 0) (e := 0) (by decide +kernel) (Or.inl rfl) H
  · have H := hf1 q
    refine hw_ald (b := 0) (e := 0) (by decide +kernel) g0 (by decide) ?_
    refine hr_gr (w := 4) (b := 0) (e := 1) 0 rfl (by decide +kernel) ?_
    refine hr_gr (w := 17) (b := 2) (e := 1) 4 rfl (by decide +kernel) ?_
    refine hr_gr (w := 18) (b := 4) (e := 6) 17 rfl (by decide +kernel) ?_
    refine hw_ld (b := 2) (e := 0) (by decide +kernel) g2 ?_
    obtain ⟨hl3, hu3, H⟩ := H
    refine hr_al (b := 0) (a0 := 0) (e := 0) (n := 8) (w := φ 18 ((l2).toNat)) 18 rfl (by decide +kernel) (by decide) hl3 hu3 rfl ?_
    obtain ⟨hz4, ht4, hf4⟩ := H
    refine hw_if (a0 := 0) (b := 1) (e := 41) (by decide +kernel) hz4 (fun q => ?_) (fun q => ?_)
    · have H := ht4 q
      refine hw_inc (L' := (jm_st1 L 2 (0, l2 + 1))) (c := 1) (b := 2) (e := 0) (by decide +kernel) g2 rfl ?_
      refine hw_goto (a0 := 0) (b := 0) (e := 4) (by decide +kernel) ?_
      exact H
    · have H := hf4 q
      refine hw_ld (b := 1) (e := 0) (by decide +kernel) g1 ?_
      refine hw_k (c := 1) (b := 0) (e := 1) (by decide +kernel) ?_
      refine hw_ld (b := 2) (e := 0) (by decide +kernel) g2 ?_
      refine hw_bin (w := hb_shl 1 l2) (a0 := 0) (b := 6) (e := 0) (by decide +kernel) rfl ?_
      refine hw_bin (w := hb_or l1 (hb_shl 1 l2)) (a0 := 0) (b := 4) (e := 0) (by decide +kernel) rfl ?_
      refine hw_st (L' := (jm_st1 L 1 (0, hb_or l1 (hb_shl 1 l2)))) (b := 1) (e := 0) (by decide +kernel) rfl ?_
      refine hw_inc (L' := (jm_st1 (jm_st1 L 1 (0, hb_or l1 (hb_shl 1 l2))) 2 (0, l2 + 1))) (c := 1) (b := 2) (e := 0) (by decide +kernel) (get_st1 g2 (by decide) (fun q => absurd q.1 (by decide))) rfl ?_
      refine hw_goto (a0 := 0) (b := 0) (e := 4) (by decide +kernel) ?_
      exact H
theorem sf_76_0_l4 {sc : List Int} {d x : Nat} {Q : Option jm_V → hf_F → Nat → Prop} : ∀ (n : Nat) (φ : hf_F) (L : jm_L) (l1 l2 : Int), jm_get L 0 = some (2, 0) → jm_get L 1 = some (0, l1) → jm_get L 2 = some (0, l2) → Inv φ → 8 - l2 < (n : Int) → (-2147483648 : Int) ≤ l1 → l1 ≤ 2147483647 → 0 ≤ l2 → l2 ≤ 8 → (∀ (r : Int) (ψ : hf_F), Inv ψ → Fr [] φ ψ → (-2147483648 : Int) ≤ r ∧ r ≤ 2147483647 → Q (some (0, r)) ψ x) → hw sc d 76 4 L [] φ x Q := by
  intro n
  induction n with
  | zero =>
    intro φ L l1 l2 g0 g1 g2 hI hM b1a b1b b2a b2b hQ
    exfalso
    omega
  | succ n ih =>
    intro φ L l1 l2 g0 g1 g2 hI hM b1a b1b b2a b2b hQ
    refine sf_76_0_v4 g0 g1 g2 ?_
    have f1 := iv_at (a := 6) (k := 1) (lo := 0) (u := 8) hI (by decide +kernel)
    refine ⟨by unfold hi; omega, by unfold hi; omega, fun q1 => ?_, fun q1 => ?_⟩
    · skip
      exact hQ l1 φ hI (fr_rf) ⟨by omega, by omega⟩
    · skip
      refine ⟨by omega, by omega, ?_⟩
      have f2 := iv_ar (a := 18) (s := 0) (t := 8) (lo := 0) (u := 29) (z := l2) hI (by decide +kernel) (by omega) (by omega)
      refine ⟨by unfold hi; omega, fun q4 => ?_, fun q4 => ?_⟩
      · skip
        exact ih φ (jm_st1 L 2 (0, l2 + 1)) l1 (l2 + 1) (get_st1 g0 (by decide) (fun q => absurd q.1 (by decide))) (get_st1 g1 (by decide) (fun q => tg0 q.2)) get_st1e hI (by omega) (by omega) (by omega) (by omega) (by omega) (fun rr χ hIχ hFχ hpχ => hQ rr χ hIχ (fr_tr (fr_rf) hFχ (by decide)) hpχ)
      · skip
        have f3 := hr_shl 1 l2
        have f4 := hr_or l1 (hb_shl 1 l2)
        exact ih φ (jm_st1 (jm_st1 L 1 (0, hb_or l1 (hb_shl 1 l2))) 2 (0, l2 + 1)) (hb_or l1 (hb_shl 1 l2)) (l2 + 1) (get_st1 (get_st1 g0 (by decide) (fun q => tg2 q.2)) (by decide) (fun q => absurd q.1 (by decide))) (get_st1 get_st1e (by decide) (fun q => tg0 q.2)) get_st1e hI (by omega) (by omega) (by omega) (by omega) (by omega) (fun rr χ hIχ hFχ hpχ => hQ rr χ hIχ (fr_tr (fr_rf) hFχ (by decide)) hpχ)
theorem sf_76_0_v {sc : List Int} {d : Nat} {φ : hf_F} {x : Nat} {Q : Option jm_V → hf_F → Nat → Prop} 
    (H : hw sc d 76 4 (jm_st1 (jm_st1 [(0, (2, 0))] 1 (0, 0)) 2 (0, 0)) [] φ x Q) :
    hw sc d 76 0 [(0, (2, 0))] [] φ x Q := by
  refine hw_k (c := 0) (b := 0) (e := 1) (by decide +kernel) ?_
  refine hw_st (L' := (jm_st1 [(0, (2, 0))] 1 (0, 0))) (b := 1) (e := 0) (by decide +kernel) rfl ?_
  refine hw_k (c := 0) (b := 0) (e := 1) (by decide +kernel) ?_
  refine hw_st (L' := (jm_st1 (jm_st1 [(0, (2, 0))] 1 (0, 0)) 2 (0, 0))) (b := 2) (e := 0) (by decide +kernel) rfl ?_
  exact H
theorem sf_76_0 {sc : List Int} {d : Nat} {φ : hf_F} {x : Nat} {Q : Option jm_V → hf_F → Nat → Prop}  (hI : Inv φ)  (hQ : ∀ (r : Int) (ψ : hf_F), Inv ψ → Fr [] φ ψ → (-2147483648 : Int) ≤ r ∧ r ≤ 2147483647 → Q (some (0, r)) ψ x) : hw sc d 76 0 [(0, (2, 0))] [] φ x Q := by
  apply sf_76_0_v
  exact sf_76_0_l4 ((8 - 0 : Int).toNat + 1) φ (jm_st1 (jm_st1 [(0, (2, 0))] 1 (0, 0)) 2 (0, 0)) 0 0 (get_st1 (get_st1 rfl (by decide) (fun q => tg2 q.2)) (by decide) (fun q => absurd q.1 (by decide))) (get_st1 get_st1e (by decide) (fun q => tg0 q.2)) get_st1e hI (by omega) (by omega) (by omega) (by omega) (by omega) (fun rr χ hIχ hFχ hpχ => hQ rr χ hIχ (fr_tr (fr_rf) hFχ (by decide)) hpχ)
theorem sf_77_0_v4 {sc : List Int} {d : Nat} {φ : hf_F} {x : Nat} {Q : Option jm_V → hf_F → Nat → Prop} {L : jm_L} {l1 l2 : Int} (g0 : jm_get L 0 = some (2, 0)) (g1 : jm_get L 1 = some (0, l1)) (g2 : jm_get L 2 = some (0, l2))
    (H : hi l2 ∧ hi (φ 6 1) ∧ ((φ 6 1) ≤ l2 → Q (some (0, l1)) φ x) ∧ (¬ (φ 6 1) ≤ l2 → 0 ≤ l2 ∧ l2 < 8 ∧ (hi (φ 19 ((l2).toNat)) ∧ hi (-1 : Int) ∧ ((φ 19 ((l2).toNat)) = (-1 : Int) → hw sc d 77 4 (jm_st1 L 2 (0, l2 + 1)) [] φ x Q) ∧ (¬ (φ 19 ((l2).toNat)) = (-1 : Int) → hw sc d 77 4 (jm_st1 (jm_st1 L 1 (0, hb_or l1 (hb_shl 1 l2))) 2 (0, l2 + 1)) [] φ x Q)))) :
    hw sc d 77 4 L [] φ x Q := by
  refine hw_ld (b := 2) (e := 0) (by decide +kernel) g2 ?_
  refine hw_ald (b := 0) (e := 0) (by decide +kernel) g0 (by decide) ?_
  refine hr_gr (w := 4) (b := 0) (e := 1) 0 rfl (by decide +kernel) ?_
  refine hr_gr (w := 5) (b := 2) (e := 0) 4 rfl (by decide +kernel) ?_
  refine hr_gr (w := 6) (b := 3) (e := 0) 5 rfl (by decide +kernel) ?_
  refine hw_k (c := 1) (b := 0) (e := 1) (by decide +kernel) ?_
  refine hr_al (b := 0) (a0 := 0) (e := 0) (n := 5) (w := φ 6 1) 6 rfl (by decide +kernel) (by decide) (by decide) (by decide) rfl ?_
  obtain ⟨hz1, hy1, ht1, hf1⟩ := H
  refine hw_if2 (a0 := 0) (b := 3) (e := 48) (by decide +kernel) hz1 hy1 (fun q => ?_) (fun q => ?_)
  · have H := ht1 q
    refine hw_ld (b := 1) (e := 0) (by decide +kernel) g1 ?_
    exact hw_ret (a0 := 0) (e := 0) (by decide +kernel) (Or.inl rfl) H
  · have H := hf1 q
    refine hw_ald (b := 0) (e := 0) (by decide +kernel) g0 (by decide) ?_
    refine hr_gr (w := 4) (b := 0) (e := 1) 0 rfl (by decide +kernel) ?_
    refine hr_gr (w := 17) (b := 2) (e := 1) 4 rfl (by decide +kernel) ?_
    refine hr_gr (w := 19) (b := 4) (e := 7) 17 rfl (by decide +kernel) ?_
    refine hw_ld (b := 2) (e := 0) (by decide +kernel) g2 ?_
    obtain ⟨hl3, hu3, H⟩ := H
    refine hr_al (b := 0) (a0 := 0) (e := 0) (n := 8) (w := φ 19 ((l2).toNat)) 19 rfl (by decide +kernel) (by decide) hl3 hu3 rfl ?_
    refine hw_k (c := (-1 : Int)) (b := 0) (e := 1) (by decide +kernel) ?_
    obtain ⟨hz4, hy4, ht4, hf4⟩ := H
    refine hw_if2 (a0 := 0) (b := 0) (e := 42) (by decide +kernel) hz4 hy4 (fun q => ?_) (fun q => ?_)
    · have H := ht4 q
      refine hw_inc (L' := (jm_st1 L 2 (0, l2 + 1))) (c := 1) (b := 2) (e := 0) (by decide +kernel) g2 rfl ?_
      refine hw_goto (a0 := 0) (b := 0) (e := 4) (by decide +kernel) ?_
      exact H
    · have H := hf4 q
      refine hw_ld (b := 1) (e := 0) (by decide +kernel) g1 ?_
      refine hw_k (c := 1) (b := 0) (e := 1) (by decide +kernel) ?_
      refine hw_ld (b := 2) (e := 0) (by decide +kernel) g2 ?_
      refine hw_bin (w := hb_shl 1 l2) (a0 := 0) (b := 6) (e := 0) (by decide +kernel) rfl ?_
      refine hw_bin (w := hb_or l1 (hb_shl 1 l2)) (a0 := 0) (b := 4) (e := 0) (by decide +kernel) rfl ?_
      refine hw_st (L' := (jm_st1 L 1 (0, hb_or l1 (hb_shl 1 l2)))) (b := 1) (e := 0) (by decide +kernel) rfl ?_
      refine hw_inc (L' := (jm_st1 (jm_st1 L 1 (0, hb_or l1 (hb_shl 1 l2))) 2 (0, l2 + 1))) (c := 1) (b := 2) (e := 0) (by decide +kernel) (get_st1 g2 (by decide) (fun q => absurd q.1 (by decide))) rfl ?_
      refine hw_goto (a0 := 0) (b := 0) (e := 4) (by decide +kernel) ?_
      exact H
theorem sf_77_0_l4 {sc : List Int} {d x : Nat} {Q : Option jm_V → hf_F → Nat → Prop} : ∀ (n : Nat) (φ : hf_F) (L : jm_L) (l1 l2 : Int), jm_get L 0 = some (2, 0) → jm_get L 1 = some (0, l1) → jm_get L 2 = some (0, l2) → Inv φ → 8 - l2 < (n : Int) → (-2147483648 : Int) ≤ l1 → l1 ≤ 2147483647 → 0 ≤ l2 → l2 ≤ 8 → (∀ (r : Int) (ψ : hf_F), Inv ψ → Fr [] φ ψ → True → Q (some (0, r)) ψ x) → hw sc d 77 4 L [] φ x Q := by
  intro n
  induction n with
  | zero =>
    intro φ L l1 l2 g0 g1 g2 hI hM b1a b1b b2a b2b hQ
    exfalso
    omega
  | succ n ih =>
    intro φ L l1 l2 g0 g1 g2 hI hM b1a b1b b2a b2b hQ
    refine sf_77_0_v4 g0 g1 g2 ?_
    have f1 := iv_at (a := 6) (k := 1) (lo := 0) (u := 8) hI (by decide +kernel)
    refine ⟨by unfold hi; omega, by unfold hi; omega, fun q1 => ?_, fun q1 => ?_⟩
    · skip
      exact hQ l1 φ hI (fr_rf) trivial
    · skip
      refine ⟨by omega, by omega, ?_⟩
      have f2 := iv_ar (a := 19) (s := 0) (t := 8) (lo := (-1 : Int)) (u := 5) (z := l2) hI (by decide +kernel) (by omega) (by omega)
      refine ⟨by unfold hi; omega, by unfold hi; omega, fun q4 => ?_, fun q4 => ?_⟩
      · skip
        exact ih φ (jm_st1 L 2 (0, l2 + 1)) l1 (l2 + 1) (get_st1 g0 (by decide) (fun q => absurd q.1 (by decide))) (get_st1 g1 (by decide) (fun q => tg0 q.2)) get_st1e hI (by omega) (by omega) (by omega) (by omega) (by omega) (fun rr χ hIχ hFχ hpχ => hQ rr χ hIχ (fr_tr (fr_rf) hFχ (by decide)) hpχ)
      · skip
        have f3 := hr_shl 1 l2
        have f4 := hr_or l1 (hb_shl 1 l2)
        exact ih φ (jm_st1 (jm_st1 L 1 (0, hb_or l1 (hb_shl 1 l2))) 2 (0, l2 + 1)) (hb_or l1 (hb_shl 1 l2)) (l2 + 1) (get_st1 (get_st1 g0 (by decide) (fun q => tg2 q.2)) (by decide) (fun q => absurd q.1 (by decide))) (get_st1 get_st1e (by decide) (fun q => tg0 q.2)) get_st1e hI (by omega) (by omega) (by omega) (by omega) (by omega) (fun rr χ hIχ hFχ hpχ => hQ rr χ hIχ (fr_tr (fr_rf) hFχ (by decide)) hpχ)
theorem sf_77_0_v {sc : List Int} {d : Nat} {φ : hf_F} {x : Nat} {Q : Option jm_V → hf_F → Nat → Prop} 
    (H : hw sc d 77 4 (jm_st1 (jm_st1 [(0, (2, 0))] 1 (0, 0)) 2 (0, 0)) [] φ x Q) :
    hw sc d 77 0 [(0, (2, 0))] [] φ x Q := by
  refine hw_k (c := 0) (b := 0) (e := 1) (by decide +kernel) ?_
  refine hw_st (L' := (jm_st1 [(0, (2, 0))] 1 (0, 0))) (b := 1) (e := 0) (by decide +kernel) rfl ?_
  refine hw_k (c := 0) (b := 0) (e := 1) (by decide +kernel) ?_
  refine hw_st (L' := (jm_st1 (jm_st1 [(0, (2, 0))] 1 (0, 0)) 2 (0, 0))) (b := 2) (e := 0) (by decide +kernel) rfl ?_
  exact H
theorem sf_77_0 {sc : List Int} {d : Nat} {φ : hf_F} {x : Nat} {Q : Option jm_V → hf_F → Nat → Prop}  (hI : Inv φ)  (hQ : ∀ (r : Int) (ψ : hf_F), Inv ψ → Fr [] φ ψ → True → Q (some (0, r)) ψ x) : hw sc d 77 0 [(0, (2, 0))] [] φ x Q := by
  apply sf_77_0_v
  exact sf_77_0_l4 ((8 - 0 : Int).toNat + 1) φ (jm_st1 (jm_st1 [(0, (2, 0))] 1 (0, 0)) 2 (0, 0)) 0 0 (get_st1 (get_st1 rfl (by decide) (fun q => tg2 q.2)) (by decide) (fun q => absurd q.1 (by decide))) (get_st1 get_st1e (by decide) (fun q => tg0 q.2)) get_st1e hI (by omega) (by omega) (by omega) (by omega) (by omega) (fun rr χ hIχ hFχ hpχ => hQ rr χ hIχ (fr_tr (fr_rf) hFχ (by decide)) hpχ)
theorem sf_75_0_v {sc : List Int} {d : Nat} {φ : hf_F} {x : Nat} {Q : Option jm_V → hf_F → Nat → Prop} {v1 : Int}
    (H : hi v1 ∧ (v1 = 0 → Q (some (0, φ 17 0)) φ x) ∧ (v1 = 1 → Q (some (0, φ 17 1)) φ x) ∧ (v1 = 2 → Q (some (0, φ 17 2)) φ x) ∧ (v1 = 3 → Q (some (0, φ 17 3)) φ x) ∧ (v1 = 4 → Q (some (0, φ 17 4)) φ x) ∧ (v1 = 5 → hw sc d 76 0 [(0, (2, 0))] [] φ x (fun r ψ7 y7 => y7 = x ∧ (∃ z7 : Int, r = some (0, z7) ∧ (Q (some (0, z7)) ψ7 x)))) ∧ (v1 = 6 → hw sc d 77 0 [(0, (2, 0))] [] φ x (fun r ψ9 y9 => y9 = x ∧ (∃ z9 : Int, r = some (0, z9) ∧ (Q (some (0, z9)) ψ9 x)))) ∧ (v1 = 7 → Q (some (0, φ 17 5)) φ x) ∧ ((v1 < 0 ∨ 8 ≤ v1) → Q (some (0, (-1 : Int))) φ x)) :
    hw sc (d + 1) 75 0 [(0, (2, 0)), (1, (0, v1))] [] φ x Q := by
  refine hw_ld (b := 1) (e := 0) (by decide +kernel) rfl ?_
  obtain ⟨hz1, H⟩ := H
  refine hr_tsw (T := [48, 59, 70, 81, 92, 103, 108, 113]) (lo := 0) (nn := 8) (b := 124) (e := 3) (by decide +kernel) rfl hz1 ?_ ?_
  · intro q
    have H := H.2.2.2.2.2.2.2.2 q
    refine hw_k (c := (-1 : Int)) (b := 0) (e := 1) (by decide +kernel) ?_
    exact hw_ret (a0 := 0) (e := 0) (by decide +kernel) (Or.inl rfl) H
  · intro kq tq htq hzq
    match kq, htq, hzq with
    | 0, htq, hzq =>
      cases htq
      have H := H.1 (by omega)
      refine hw_ald (b := 0) (e := 0) (by decide +kernel) rfl (by decide) ?_
      refine hr_gr (w := 4) (b := 0) (e := 1) 0 rfl (by decide +kernel) ?_
      refine hr_gr (w := 17) (b := 2) (e := 1) 4 rfl (by decide +kernel) ?_
      refine hr_gi (w := φ 17 0) (b := 4) (e := 0) 17 rfl (by decide +kernel) rfl ?_
      exact hw_ret (a0 := 0) (e := 0) (by decide +kernel) (Or.inl rfl) H
    | 1, htq, hzq =>
      cases htq
      have H := H.2.1 (by omega)
      refine hw_ald (b := 0) (e := 0) (by decide +kernel) rfl (by decide) ?_
      refine hr_gr (w := 4) (b := 0) (e := 1) 0 rfl (by decide +kernel) ?_
      refine hr_gr (w := 17) (b := 2) (e := 1) 4 rfl (by decide +kernel) ?_
      refine hr_gi (w := φ 17 1) (b := 4) (e := 1) 17 rfl (by decide +kernel) rfl ?_
      exact hw_ret (a0 := 0) (e := 0) (by decide +kernel) (Or.inl rfl) H
    | 2, htq, hzq =>
      cases htq
      have H := H.2.2.1 (by omega)
      refine hw_ald (b := 0) (e := 0) (by decide +kernel) rfl (by decide) ?_
      refine hr_gr (w := 4) (b := 0) (e := 1) 0 rfl (by decide +kernel) ?_
      refine hr_gr (w := 17) (b := 2) (e := 1) 4 rfl (by decide +kernel) ?_
      refine hr_gi (w := φ 17 2) (b := 4) (e := 2) 17 rfl (by decide +kernel) rfl ?_
      exact hw_ret (a0 := 0) (e := 0) (by decide +kernel) (Or.inl rfl) H
    | 3, htq, hzq =>
      cases htq
      have H := H.2.2.2.1 (by omega)
      refine hw_ald (b := 0) (e := 0) (by decide +kernel) rfl (by decide) ?_
      refine hr_gr (w := 4) (b := 0) (e := 1) 0 rfl (by decide +kernel) ?_
      refine hr_gr (w := 17) (b := 2) (e := 1) 4 rfl (by decide +kernel) ?_
      refine hr_gi (w := φ 17 3) (b := 4) (e := 3) 17 rfl (by decide +kernel) rfl ?_
      exact hw_ret (a0 := 0) (e := 0) (by decide +kernel) (Or.inl rfl) H
    | 4, htq, hzq =>
      cases htq
      have H := H.2.2.2.2.1 (by omega)
      refine hw_ald (b := 0) (e := 0) (by decide +kernel) rfl (by decide) ?_
      refine hr_gr (w := 4) (b := 0) (e := 1) 0 rfl (by decide +kernel) ?_
      refine hr_gr (w := 17) (b := 2) (e := 1) 4 rfl (by decide +kernel) ?_
      refine hr_gi (w := φ 17 4) (b := 4) (e := 4) 17 rfl (by decide +kernel) rfl ?_
      exact hw_ret (a0 := 0) (e := 0) (by decide +kernel) (Or.inl rfl) H
    | 5, htq, hzq =>
      cases htq
      have H := H.2.2.2.2.2.1 (by omega)
      refine hw_ald (b := 0) (e := 0) (by decide +kernel) rfl (by decide) ?_
      refine hr_call (a0 := 10) (b := 76) (e := 1) (nl := 3) (As := []) (R := []) 0 rfl (by decide +kernel) rfl rfl (Nat.le_of_ble_eq_true rfl) (Nat.le_of_ble_eq_true rfl) ?_
      refine hw_mono H ?_
      rintro r ψ7 y7 ⟨hyx, z7, hr, H⟩
      subst hyx
      subst hr
      refine ⟨hne0, ?_⟩
      show hw sc (d + 1) 75 107 [(0, (2, 0)), (1, (0, v1))] [(0, z7)] ψ7 y7 Q
      exact hw_ret (a0 := 0) (e := 0) (by decide +kernel) (Or.inl rfl) H
    | 6, htq, hzq =>
      cases htq
      have H := H.2.2.2.2.2.2.1 (by omega)
      refine hw_ald (b := 0) (e := 0) (by decide +kernel) rfl (by decide) ?_
      refine hr_call (a0 := 10) (b := 77) (e := 1) (nl := 3) (As := []) (R := []) 0 rfl (by decide +kernel) rfl rfl (Nat.le_of_ble_eq_true rfl) (Nat.le_of_ble_eq_true rfl) ?_
      refine hw_mono H ?_
      rintro r ψ9 y9 ⟨hyx, z9, hr, H⟩
      subst hyx
      subst hr
      refine ⟨hne0, ?_⟩
      show hw sc (d + 1) 75 112 [(0, (2, 0)), (1, (0, v1))] [(0, z9)] ψ9 y9 Q
      exact hw_ret (a0 := 0) (e := 0) (by decide +kernel) (Or.inl rfl) H
    | 7, htq, hzq =>
      cases htq
      have H := H.2.2.2.2.2.2.2.1 (by omega)
      refine hw_ald (b := 0) (e := 0) (by decide +kernel) rfl (by decide) ?_
      refine hr_gr (w := 4) (b := 0) (e := 1) 0 rfl (by decide +kernel) ?_
      refine hr_gr (w := 17) (b := 2) (e := 1) 4 rfl (by decide +kernel) ?_
      refine hr_gi (w := φ 17 5) (b := 4) (e := 5) 17 rfl (by decide +kernel) rfl ?_
      exact hw_ret (a0 := 0) (e := 0) (by decide +kernel) (Or.inl rfl) H
    | kq + 8, htq, _ => cases htq
theorem sf_75_0 {sc : List Int} {d : Nat} {φ : hf_F} {x : Nat} {Q : Option jm_V → hf_F → Nat → Prop} {v1 : Int} (hI : Inv φ) (h1a : (-2147483648 : Int) ≤ v1) (h1b : v1 ≤ 2147483647) (hQ : ∀ (r : Int) (ψ : hf_F), Inv ψ → Fr [] φ ψ → True → Q (some (0, r)) ψ x) : hw sc (d + 1) 75 0 [(0, (2, 0)), (1, (0, v1))] [] φ x Q := by
  apply sf_75_0_v
  refine ⟨by unfold hi; omega, fun q1 => ?_, fun q1 => ?_, fun q1 => ?_, fun q1 => ?_, fun q1 => ?_, fun q1 => ?_, fun q1 => ?_, fun q1 => ?_, fun q1 => ?_⟩
  · skip
    exact hQ (φ 17 0) φ hI (fr_rf) trivial
  · skip
    have f1 := iv_at (a := 17) (k := 1) (lo := (-1 : Int)) (u := 7) hI (by decide +kernel)
    exact hQ (φ 17 1) φ hI (fr_rf) trivial
  · skip
    have f2 := iv_at (a := 17) (k := 2) (lo := (-1 : Int)) (u := 5) hI (by decide +kernel)
    exact hQ (φ 17 2) φ hI (fr_rf) trivial
  · skip
    have f3 := iv_at (a := 17) (k := 3) (lo := (-2147483648 : Int)) (u := 2147483647) hI (by decide +kernel)
    exact hQ (φ 17 3) φ hI (fr_rf) trivial
  · skip
    exact hQ (φ 17 4) φ hI (fr_rf) trivial
  · skip
    refine sf_76_0 (φ := φ) hI  (fun z7 ψ7 hI7 hF7 hp7 => ⟨rfl, z7, rfl, ?_⟩)
    have hG7 : Fr [] φ ψ7 := fr_tr (fr_rf) hF7 (by decide)
    exact hQ z7 ψ7 hI7 hG7 trivial
  · skip
    refine sf_77_0 (φ := φ) hI  (fun z9 ψ9 hI9 hF9 hp9 => ⟨rfl, z9, rfl, ?_⟩)
    have hG9 : Fr [] φ ψ9 := fr_tr (fr_rf) hF9 (by decide)
    exact hQ z9 ψ9 hI9 hG9 trivial
  · skip
    exact hQ (φ 17 5) φ hI (fr_rf) trivial
  · skip
    exact hQ (-1 : Int) φ hI (fr_rf) trivial
theorem sf_66_17_43_v {sc : List Int} {d : Nat} {φ : hf_F} {x : Nat} {Q : Option jm_V → hf_F → Nat → Prop} 
    (H : Q none (hf_cp (hf_cp (hf_cp (hf_cp (hf_cp (hf_cp (hf_cp (hf_cp (hf_up (hf_up (hf_up (hf_up (hf_up (hf_up φ 17 0 (φ 43 0)) 17 1 (φ 43 1)) 17 2 (φ 43 2)) 17 3 (φ 43 3)) 17 4 (φ 43 4)) 17 5 (φ 43 5)) 44 18 8) 45 19 8) 46 20 6) 47 21 6) 48 22 36) 49 23 6) 50 24 6) 51 25 8) x) :
    hw sc d 66 0 [(0, (2, 17)), (1, (2, 43))] [] φ x Q := by
  refine hw_ald (b := 0) (e := 0) (by decide +kernel) rfl (by decide) ?_
  refine hw_ald (b := 1) (e := 0) (by decide +kernel) rfl (by decide) ?_
  refine hr_gi (w := φ 43 0) (b := 4) (e := 0) 43 rfl (by decide +kernel) rfl ?_
  refine hr_pi (b := 4) (e := 0) 17 rfl (by decide +kernel) ?_
  refine hw_ald (b := 0) (e := 0) (by decide +kernel) rfl (by decide) ?_
  refine hw_ald (b := 1) (e := 0) (by decide +kernel) rfl (by decide) ?_
  refine hr_gi (w := φ 43 1) (b := 4) (e := 1) 43 rfl (by decide +kernel) (hf_up_ne (fun q => absurd q.1 (by decide))) ?_
  refine hr_pi (b := 4) (e := 1) 17 rfl (by decide +kernel) ?_
  refine hw_ald (b := 0) (e := 0) (by decide +kernel) rfl (by decide) ?_
  refine hw_ald (b := 1) (e := 0) (by decide +kernel) rfl (by decide) ?_
  refine hr_gi (w := φ 43 2) (b := 4) (e := 2) 43 rfl (by decide +kernel) ((hf_up_ne (fun q => absurd q.1 (by decide))).trans (hf_up_ne (fun q => absurd q.1 (by decide)))) ?_
  refine hr_pi (b := 4) (e := 2) 17 rfl (by decide +kernel) ?_
  refine hw_ald (b := 0) (e := 0) (by decide +kernel) rfl (by decide) ?_
  refine hw_ald (b := 1) (e := 0) (by decide +kernel) rfl (by decide) ?_
  refine hr_gi (w := φ 43 3) (b := 4) (e := 3) 43 rfl (by decide +kernel) ((hf_up_ne (fun q => absurd q.1 (by decide))).trans ((hf_up_ne (fun q => absurd q.1 (by decide))).trans (hf_up_ne (fun q => absurd q.1 (by decide))))) ?_
  refine hr_pi (b := 4) (e := 3) 17 rfl (by decide +kernel) ?_
  refine hw_ald (b := 0) (e := 0) (by decide +kernel) rfl (by decide) ?_
  refine hw_ald (b := 1) (e := 0) (by decide +kernel) rfl (by decide) ?_
  refine hr_gi (w := φ 43 4) (b := 4) (e := 4) 43 rfl (by decide +kernel) ((hf_up_ne (fun q => absurd q.1 (by decide))).trans ((hf_up_ne (fun q => absurd q.1 (by decide))).trans ((hf_up_ne (fun q => absurd q.1 (by decide))).trans (hf_up_ne (fun q => absurd q.1 (by decide)))))) ?_
  refine hr_pi (b := 4) (e := 4) 17 rfl (by decide +kernel) ?_
  refine hw_ald (b := 0) (e := 0) (by decide +kernel) rfl (by decide) ?_
  refine hw_ald (b := 1) (e := 0) (by decide +kernel) rfl (by decide) ?_
  refine hr_gi (w := φ 43 5) (b := 4) (e := 5) 43 rfl (by decide +kernel) ((hf_up_ne (fun q => absurd q.1 (by decide))).trans ((hf_up_ne (fun q => absurd q.1 (by decide))).trans ((hf_up_ne (fun q => absurd q.1 (by decide))).trans ((hf_up_ne (fun q => absurd q.1 (by decide))).trans (hf_up_ne (fun q => absurd q.1 (by decide))))))) ?_
  refine hr_pi (b := 4) (e := 5) 17 rfl (by decide +kernel) ?_
  refine hw_ald (b := 1) (e := 0) (by decide +kernel) rfl (by decide) ?_
  refine hr_gr (w := 44) (b := 4) (e := 6) 43 rfl (by decide +kernel) ?_
  refine hw_k (c := 0) (b := 0) (e := 1) (by decide +kernel) ?_
  refine hw_ald (b := 0) (e := 0) (by decide +kernel) rfl (by decide) ?_
  refine hr_gr (w := 18) (b := 4) (e := 6) 17 rfl (by decide +kernel) ?_
  refine hw_k (c := 0) (b := 0) (e := 1) (by decide +kernel) ?_
  refine hw_k (c := 8) (b := 1) (e := 2) (by decide +kernel) ?_
  refine hr_cp (a0 := 0) (b0 := 0) (e := 0) 44 18 8 rfl rfl rfl (by decide +kernel) (Nat.le_of_ble_eq_true rfl) ?_
  refine hw_ald (b := 1) (e := 0) (by decide +kernel) rfl (by decide) ?_
  refine hr_gr (w := 45) (b := 4) (e := 7) 43 rfl (by decide +kernel) ?_
  refine hw_k (c := 0) (b := 0) (e := 1) (by decide +kernel) ?_
  refine hw_ald (b := 0) (e := 0) (by decide +kernel) rfl (by decide) ?_
  refine hr_gr (w := 19) (b := 4) (e := 7) 17 rfl (by decide +kernel) ?_
  refine hw_k (c := 0) (b := 0) (e := 1) (by decide +kernel) ?_
  refine hw_k (c := 8) (b := 1) (e := 2) (by decide +kernel) ?_
  refine hr_cp (a0 := 0) (b0 := 0) (e := 0) 45 19 8 rfl rfl rfl (by decide +kernel) (Nat.le_of_ble_eq_true rfl) ?_
  refine hw_ald (b := 1) (e := 0) (by decide +kernel) rfl (by decide) ?_
  refine hr_gr (w := 46) (b := 4) (e := 8) 43 rfl (by decide +kernel) ?_
  refine hw_k (c := 0) (b := 0) (e := 1) (by decide +kernel) ?_
  refine hw_ald (b := 0) (e := 0) (by decide +kernel) rfl (by decide) ?_
  refine hr_gr (w := 20) (b := 4) (e := 8) 17 rfl (by decide +kernel) ?_
  refine hw_k (c := 0) (b := 0) (e := 1) (by decide +kernel) ?_
  refine hw_k (c := 6) (b := 1) (e := 2) (by decide +kernel) ?_
  refine hr_cp (a0 := 0) (b0 := 0) (e := 0) 46 20 6 rfl rfl rfl (by decide +kernel) (Nat.le_of_ble_eq_true rfl) ?_
  refine hw_ald (b := 1) (e := 0) (by decide +kernel) rfl (by decide) ?_
  refine hr_gr (w := 47) (b := 4) (e := 9) 43 rfl (by decide +kernel) ?_
  refine hw_k (c := 0) (b := 0) (e := 1) (by decide +kernel) ?_
  refine hw_ald (b := 0) (e := 0) (by decide +kernel) rfl (by decide) ?_
  refine hr_gr (w := 21) (b := 4) (e := 9) 17 rfl (by decide +kernel) ?_
  refine hw_k (c := 0) (b := 0) (e := 1) (by decide +kernel) ?_
  refine hw_k (c := 6) (b := 1) (e := 2) (by decide +kernel) ?_
  refine hr_cp (a0 := 0) (b0 := 0) (e := 0) 47 21 6 rfl rfl rfl (by decide +kernel) (Nat.le_of_ble_eq_true rfl) ?_
  refine hw_ald (b := 1) (e := 0) (by decide +kernel) rfl (by decide) ?_
  refine hr_gr (w := 48) (b := 4) (e := 10) 43 rfl (by decide +kernel) ?_
  refine hw_k (c := 0) (b := 0) (e := 1) (by decide +kernel) ?_
  refine hw_ald (b := 0) (e := 0) (by decide +kernel) rfl (by decide) ?_
  refine hr_gr (w := 22) (b := 4) (e := 10) 17 rfl (by decide +kernel) ?_
  refine hw_k (c := 0) (b := 0) (e := 1) (by decide +kernel) ?_
  refine hw_k (c := 36) (b := 1) (e := 2) (by decide +kernel) ?_
  refine hr_cp (a0 := 0) (b0 := 0) (e := 0) 48 22 36 rfl rfl rfl (by decide +kernel) (Nat.le_of_ble_eq_true rfl) ?_
  refine hw_ald (b := 1) (e := 0) (by decide +kernel) rfl (by decide) ?_
  refine hr_gr (w := 49) (b := 4) (e := 11) 43 rfl (by decide +kernel) ?_
  refine hw_k (c := 0) (b := 0) (e := 1) (by decide +kernel) ?_
  refine hw_ald (b := 0) (e := 0) (by decide +kernel) rfl (by decide) ?_
  refine hr_gr (w := 23) (b := 4) (e := 11) 17 rfl (by decide +kernel) ?_
  refine hw_k (c := 0) (b := 0) (e := 1) (by decide +kernel) ?_
  refine hw_k (c := 6) (b := 1) (e := 2) (by decide +kernel) ?_
  refine hr_cp (a0 := 0) (b0 := 0) (e := 0) 49 23 6 rfl rfl rfl (by decide +kernel) (Nat.le_of_ble_eq_true rfl) ?_
  refine hw_ald (b := 1) (e := 0) (by decide +kernel) rfl (by decide) ?_
  refine hr_gr (w := 50) (b := 4) (e := 12) 43 rfl (by decide +kernel) ?_
  refine hw_k (c := 0) (b := 0) (e := 1) (by decide +kernel) ?_
  refine hw_ald (b := 0) (e := 0) (by decide +kernel) rfl (by decide) ?_
  refine hr_gr (w := 24) (b := 4) (e := 12) 17 rfl (by decide +kernel) ?_
  refine hw_k (c := 0) (b := 0) (e := 1) (by decide +kernel) ?_
  refine hw_k (c := 6) (b := 1) (e := 2) (by decide +kernel) ?_
  refine hr_cp (a0 := 0) (b0 := 0) (e := 0) 50 24 6 rfl rfl rfl (by decide +kernel) (Nat.le_of_ble_eq_true rfl) ?_
  refine hw_ald (b := 1) (e := 0) (by decide +kernel) rfl (by decide) ?_
  refine hr_gr (w := 51) (b := 4) (e := 13) 43 rfl (by decide +kernel) ?_
  refine hw_k (c := 0) (b := 0) (e := 1) (by decide +kernel) ?_
  refine hw_ald (b := 0) (e := 0) (by decide +kernel) rfl (by decide) ?_
  refine hr_gr (w := 25) (b := 4) (e := 13) 17 rfl (by decide +kernel) ?_
  refine hw_k (c := 0) (b := 0) (e := 1) (by decide +kernel) ?_
  refine hw_k (c := 8) (b := 1) (e := 2) (by decide +kernel) ?_
  refine hr_cp (a0 := 0) (b0 := 0) (e := 0) 51 25 8 rfl rfl rfl (by decide +kernel) (Nat.le_of_ble_eq_true rfl) ?_
  exact hw_vret (a0 := 0) (e := 0) (by decide +kernel) H
theorem sf_66_17_43 {sc : List Int} {d : Nat} {φ : hf_F} {x : Nat} {Q : Option jm_V → hf_F → Nat → Prop}  (hI : Inv φ)  (hQ : ∀ ψ : hf_F, Inv ψ → Fr [17, 18, 19, 20, 21, 22, 23, 24, 25] φ ψ → Q none ψ x) : hw sc d 66 0 [(0, (2, 17)), (1, (2, 43))] [] φ x Q := by
  apply sf_66_17_43_v
  have i1 : Inv (hf_up φ 17 0 (φ 43 0)) := iv_upn hI (by decide) (by decide +kernel)
  have r1 : Fr [17, 18, 19, 20, 21, 22, 23, 24, 25] φ (hf_up φ 17 0 (φ 43 0)) := fr_up (fr_rf) (by decide)
  have f2 := iv_at (a := 43) (k := 1) (lo := (-1 : Int)) (u := 7) hI (by decide +kernel)
  have i3 : Inv (hf_up (hf_up φ 17 0 (φ 43 0)) 17 1 (φ 43 1)) := iv_up (lo := (-1 : Int)) (u := 7) i1 (by decide +kernel) (by omega) (by omega)
  have r3 : Fr [17, 18, 19, 20, 21, 22, 23, 24, 25] φ (hf_up (hf_up φ 17 0 (φ 43 0)) 17 1 (φ 43 1)) := fr_up r1 (by decide)
  have f4 := iv_at (a := 43) (k := 2) (lo := (-1 : Int)) (u := 5) hI (by decide +kernel)
  have i5 : Inv (hf_up (hf_up (hf_up φ 17 0 (φ 43 0)) 17 1 (φ 43 1)) 17 2 (φ 43 2)) := iv_up (lo := (-1 : Int)) (u := 5) i3 (by decide +kernel) (by omega) (by omega)
  have r5 : Fr [17, 18, 19, 20, 21, 22, 23, 24, 25] φ (hf_up (hf_up (hf_up φ 17 0 (φ 43 0)) 17 1 (φ 43 1)) 17 2 (φ 43 2)) := fr_up r3 (by decide)
  have f6 := iv_at (a := 43) (k := 3) (lo := (-2147483648 : Int)) (u := 2147483647) hI (by decide +kernel)
  have i7 : Inv (hf_up (hf_up (hf_up (hf_up φ 17 0 (φ 43 0)) 17 1 (φ 43 1)) 17 2 (φ 43 2)) 17 3 (φ 43 3)) := iv_up (lo := (-2147483648 : Int)) (u := 2147483647) i5 (by decide +kernel) (by omega) (by omega)
  have r7 : Fr [17, 18, 19, 20, 21, 22, 23, 24, 25] φ (hf_up (hf_up (hf_up (hf_up φ 17 0 (φ 43 0)) 17 1 (φ 43 1)) 17 2 (φ 43 2)) 17 3 (φ 43 3)) := fr_up r5 (by decide)
  have i8 : Inv (hf_up (hf_up (hf_up (hf_up (hf_up φ 17 0 (φ 43 0)) 17 1 (φ 43 1)) 17 2 (φ 43 2)) 17 3 (φ 43 3)) 17 4 (φ 43 4)) := iv_upn i7 (by decide) (by decide +kernel)
  have r8 : Fr [17, 18, 19, 20, 21, 22, 23, 24, 25] φ (hf_up (hf_up (hf_up (hf_up (hf_up φ 17 0 (φ 43 0)) 17 1 (φ 43 1)) 17 2 (φ 43 2)) 17 3 (φ 43 3)) 17 4 (φ 43 4)) := fr_up r7 (by decide)
  have i9 : Inv (hf_up (hf_up (hf_up (hf_up (hf_up (hf_up φ 17 0 (φ 43 0)) 17 1 (φ 43 1)) 17 2 (φ 43 2)) 17 3 (φ 43 3)) 17 4 (φ 43 4)) 17 5 (φ 43 5)) := iv_upn i8 (by decide) (by decide +kernel)
  have r9 : Fr [17, 18, 19, 20, 21, 22, 23, 24, 25] φ (hf_up (hf_up (hf_up (hf_up (hf_up (hf_up φ 17 0 (φ 43 0)) 17 1 (φ 43 1)) 17 2 (φ 43 2)) 17 3 (φ 43 3)) 17 4 (φ 43 4)) 17 5 (φ 43 5)) := fr_up r8 (by decide)
  have i10 : Inv (hf_cp (hf_up (hf_up (hf_up (hf_up (hf_up (hf_up φ 17 0 (φ 43 0)) 17 1 (φ 43 1)) 17 2 (φ 43 2)) 17 3 (φ 43 3)) 17 4 (φ 43 4)) 17 5 (φ 43 5)) 44 18 8) := iv_cp i9 (by decide) (by decide +kernel)
  have r10 : Fr [17, 18, 19, 20, 21, 22, 23, 24, 25] φ (hf_cp (hf_up (hf_up (hf_up (hf_up (hf_up (hf_up φ 17 0 (φ 43 0)) 17 1 (φ 43 1)) 17 2 (φ 43 2)) 17 3 (φ 43 3)) 17 4 (φ 43 4)) 17 5 (φ 43 5)) 44 18 8) := fr_cp r9 (by decide)
  have i11 : Inv (hf_cp (hf_cp (hf_up (hf_up (hf_up (hf_up (hf_up (hf_up φ 17 0 (φ 43 0)) 17 1 (φ 43 1)) 17 2 (φ 43 2)) 17 3 (φ 43 3)) 17 4 (φ 43 4)) 17 5 (φ 43 5)) 44 18 8) 45 19 8) := iv_cp i10 (by decide) (by decide +kernel)
  have r11 : Fr [17, 18, 19, 20, 21, 22, 23, 24, 25] φ (hf_cp (hf_cp (hf_up (hf_up (hf_up (hf_up (hf_up (hf_up φ 17 0 (φ 43 0)) 17 1 (φ 43 1)) 17 2 (φ 43 2)) 17 3 (φ 43 3)) 17 4 (φ 43 4)) 17 5 (φ 43 5)) 44 18 8) 45 19 8) := fr_cp r10 (by decide)
  have i12 : Inv (hf_cp (hf_cp (hf_cp (hf_up (hf_up (hf_up (hf_up (hf_up (hf_up φ 17 0 (φ 43 0)) 17 1 (φ 43 1)) 17 2 (φ 43 2)) 17 3 (φ 43 3)) 17 4 (φ 43 4)) 17 5 (φ 43 5)) 44 18 8) 45 19 8) 46 20 6) := iv_cp i11 (by decide) (by decide +kernel)
  have r12 : Fr [17, 18, 19, 20, 21, 22, 23, 24, 25] φ (hf_cp (hf_cp (hf_cp (hf_up (hf_up (hf_up (hf_up (hf_up (hf_up φ 17 0 (φ 43 0)) 17 1 (φ 43 1)) 17 2 (φ 43 2)) 17 3 (φ 43 3)) 17 4 (φ 43 4)) 17 5 (φ 43 5)) 44 18 8) 45 19 8) 46 20 6) := fr_cp r11 (by decide)
  have i13 : Inv (hf_cp (hf_cp (hf_cp (hf_cp (hf_up (hf_up (hf_up (hf_up (hf_up (hf_up φ 17 0 (φ 43 0)) 17 1 (φ 43 1)) 17 2 (φ 43 2)) 17 3 (φ 43 3)) 17 4 (φ 43 4)) 17 5 (φ 43 5)) 44 18 8) 45 19 8) 46 20 6) 47 21 6) := iv_cp i12 (by decide) (by decide +kernel)
  have r13 : Fr [17, 18, 19, 20, 21, 22, 23, 24, 25] φ (hf_cp (hf_cp (hf_cp (hf_cp (hf_up (hf_up (hf_up (hf_up (hf_up (hf_up φ 17 0 (φ 43 0)) 17 1 (φ 43 1)) 17 2 (φ 43 2)) 17 3 (φ 43 3)) 17 4 (φ 43 4)) 17 5 (φ 43 5)) 44 18 8) 45 19 8) 46 20 6) 47 21 6) := fr_cp r12 (by decide)
  have i14 : Inv (hf_cp (hf_cp (hf_cp (hf_cp (hf_cp (hf_up (hf_up (hf_up (hf_up (hf_up (hf_up φ 17 0 (φ 43 0)) 17 1 (φ 43 1)) 17 2 (φ 43 2)) 17 3 (φ 43 3)) 17 4 (φ 43 4)) 17 5 (φ 43 5)) 44 18 8) 45 19 8) 46 20 6) 47 21 6) 48 22 36) := iv_cp i13 (by decide) (by decide +kernel)
  have r14 : Fr [17, 18, 19, 20, 21, 22, 23, 24, 25] φ (hf_cp (hf_cp (hf_cp (hf_cp (hf_cp (hf_up (hf_up (hf_up (hf_up (hf_up (hf_up φ 17 0 (φ 43 0)) 17 1 (φ 43 1)) 17 2 (φ 43 2)) 17 3 (φ 43 3)) 17 4 (φ 43 4)) 17 5 (φ 43 5)) 44 18 8) 45 19 8) 46 20 6) 47 21 6) 48 22 36) := fr_cp r13 (by decide)
  have i15 : Inv (hf_cp (hf_cp (hf_cp (hf_cp (hf_cp (hf_cp (hf_up (hf_up (hf_up (hf_up (hf_up (hf_up φ 17 0 (φ 43 0)) 17 1 (φ 43 1)) 17 2 (φ 43 2)) 17 3 (φ 43 3)) 17 4 (φ 43 4)) 17 5 (φ 43 5)) 44 18 8) 45 19 8) 46 20 6) 47 21 6) 48 22 36) 49 23 6) := iv_cp i14 (by decide) (by decide +kernel)
  have r15 : Fr [17, 18, 19, 20, 21, 22, 23, 24, 25] φ (hf_cp (hf_cp (hf_cp (hf_cp (hf_cp (hf_cp (hf_up (hf_up (hf_up (hf_up (hf_up (hf_up φ 17 0 (φ 43 0)) 17 1 (φ 43 1)) 17 2 (φ 43 2)) 17 3 (φ 43 3)) 17 4 (φ 43 4)) 17 5 (φ 43 5)) 44 18 8) 45 19 8) 46 20 6) 47 21 6) 48 22 36) 49 23 6) := fr_cp r14 (by decide)
  have i16 : Inv (hf_cp (hf_cp (hf_cp (hf_cp (hf_cp (hf_cp (hf_cp (hf_up (hf_up (hf_up (hf_up (hf_up (hf_up φ 17 0 (φ 43 0)) 17 1 (φ 43 1)) 17 2 (φ 43 2)) 17 3 (φ 43 3)) 17 4 (φ 43 4)) 17 5 (φ 43 5)) 44 18 8) 45 19 8) 46 20 6) 47 21 6) 48 22 36) 49 23 6) 50 24 6) := iv_cp i15 (by decide) (by decide +kernel)
  have r16 : Fr [17, 18, 19, 20, 21, 22, 23, 24, 25] φ (hf_cp (hf_cp (hf_cp (hf_cp (hf_cp (hf_cp (hf_cp (hf_up (hf_up (hf_up (hf_up (hf_up (hf_up φ 17 0 (φ 43 0)) 17 1 (φ 43 1)) 17 2 (φ 43 2)) 17 3 (φ 43 3)) 17 4 (φ 43 4)) 17 5 (φ 43 5)) 44 18 8) 45 19 8) 46 20 6) 47 21 6) 48 22 36) 49 23 6) 50 24 6) := fr_cp r15 (by decide)
  have i17 : Inv (hf_cp (hf_cp (hf_cp (hf_cp (hf_cp (hf_cp (hf_cp (hf_cp (hf_up (hf_up (hf_up (hf_up (hf_up (hf_up φ 17 0 (φ 43 0)) 17 1 (φ 43 1)) 17 2 (φ 43 2)) 17 3 (φ 43 3)) 17 4 (φ 43 4)) 17 5 (φ 43 5)) 44 18 8) 45 19 8) 46 20 6) 47 21 6) 48 22 36) 49 23 6) 50 24 6) 51 25 8) := iv_cp i16 (by decide) (by decide +kernel)
  have r17 : Fr [17, 18, 19, 20, 21, 22, 23, 24, 25] φ (hf_cp (hf_cp (hf_cp (hf_cp (hf_cp (hf_cp (hf_cp (hf_cp (hf_up (hf_up (hf_up (hf_up (hf_up (hf_up φ 17 0 (φ 43 0)) 17 1 (φ 43 1)) 17 2 (φ 43 2)) 17 3 (φ 43 3)) 17 4 (φ 43 4)) 17 5 (φ 43 5)) 44 18 8) 45 19 8) 46 20 6) 47 21 6) 48 22 36) 49 23 6) 50 24 6) 51 25 8) := fr_cp r16 (by decide)
  exact hQ (hf_cp (hf_cp (hf_cp (hf_cp (hf_cp (hf_cp (hf_cp (hf_cp (hf_up (hf_up (hf_up (hf_up (hf_up (hf_up φ 17 0 (φ 43 0)) 17 1 (φ 43 1)) 17 2 (φ 43 2)) 17 3 (φ 43 3)) 17 4 (φ 43 4)) 17 5 (φ 43 5)) 44 18 8) 45 19 8) 46 20 6) 47 21 6) 48 22 36) 49 23 6) 50 24 6) 51 25 8) i17 r17
theorem sf_79_17_v {sc : List Int} {d : Nat} {φ : hf_F} {x : Nat} {Q : Option jm_V → hf_F → Nat → Prop} {v1 v2 : Int}
    (H : 0 ≤ v1 ∧ v1 < 6 ∧ (hi (φ 20 ((v1).toNat)) ∧ hi (-1 : Int) ∧ ((φ 20 ((v1).toNat)) = (-1 : Int) → 0 ≤ v2 ∧ v2 < 8 ∧ (hi (φ 19 ((v2).toNat)) ∧ hi (-1 : Int) ∧ ((φ 19 ((v2).toNat)) = (-1 : Int) → Q (some (0, 0)) φ x) ∧ (¬ (φ 19 ((v2).toNat)) = (-1 : Int) → Q (some (0, 2)) φ x))) ∧ (¬ (φ 20 ((v1).toNat)) = (-1 : Int) → Q (some (0, 1)) φ x))) :
    hw sc d 79 0 [(0, (2, 17)), (1, (0, v1)), (2, (0, v2))] [] φ x Q := by
  refine hw_ald (b := 0) (e := 0) (by decide +kernel) rfl (by decide) ?_
  refine hr_gr (w := 20) (b := 4) (e := 8) 17 rfl (by decide +kernel) ?_
  refine hw_ld (b := 1) (e := 0) (by decide +kernel) rfl ?_
  obtain ⟨hl1, hu1, H⟩ := H
  refine hr_al (b := 0) (a0 := 0) (e := 0) (n := 6) (w := φ 20 ((v1).toNat)) 20 rfl (by decide +kernel) (by decide) hl1 hu1 rfl ?_
  refine hw_k (c := (-1 : Int)) (b := 0) (e := 1) (by decide +kernel) ?_
  obtain ⟨hz2, hy2, ht2, hf2⟩ := H
  refine hw_if2 (a0 := 0) (b := 0) (e := 12) (by decide +kernel) hz2 hy2 (fun q => ?_) (fun q => ?_)
  · have H := ht2 q
    refine hw_ald (b := 0) (e := 0) (by decide +kernel) rfl (by decide) ?_
    refine hr_gr (w := 19) (b := 4) (e := 7) 17 rfl (by decide +kernel) ?_
    refine hw_ld (b := 2) (e := 0) (by decide +kernel) rfl ?_
    obtain ⟨hl3, hu3, H⟩ := H
    refine hr_al (b := 0) (a0 := 0) (e := 0) (n := 8) (w := φ 19 ((v2).toNat)) 19 rfl (by decide +kernel) (by decide) hl3 hu3 rfl ?_
    refine hw_k (c := (-1 : Int)) (b := 0) (e := 1) (by decide +kernel) ?_
    obtain ⟨hz4, hy4, ht4, hf4⟩ := H
    refine hw_if2 (a0 := 0) (b := 0) (e := 26) (by decide +kernel) hz4 hy4 (fun q => ?_) (fun q => ?_)
    · have H := ht4 q
      refine hw_k (c := 0) (b := 0) (e := 1) (by decide +kernel) ?_
      exact hw_ret (a0 := 0) (e := 0) (by decide +kernel) (Or.inl rfl) H
    · have H := hf4 q
      refine hw_k (c := 2) (b := 0) (e := 1) (by decide +kernel) ?_
      refine hw_goto (a0 := 0) (b := 0) (e := 27) (by decide +kernel) ?_
      exact hw_ret (a0 := 0) (e := 0) (by decide +kernel) (Or.inl rfl) H
  · have H := hf2 q
    refine hw_k (c := 1) (b := 0) (e := 1) (by decide +kernel) ?_
    exact hw_ret (a0 := 0) (e := 0) (by decide +kernel) (Or.inl rfl) H
theorem sf_79_17 {sc : List Int} {d : Nat} {φ : hf_F} {x : Nat} {Q : Option jm_V → hf_F → Nat → Prop} {v1 v2 : Int} (hI : Inv φ) (h1a : 0 ≤ v1) (h1b : v1 ≤ 5) (h2a : 0 ≤ v2) (h2b : v2 ≤ 7) (hQ : ∀ (r : Int) (ψ : hf_F), Inv ψ → Fr [] φ ψ → 0 ≤ r ∧ r ≤ 2 → Q (some (0, r)) ψ x) : hw sc d 79 0 [(0, (2, 17)), (1, (0, v1)), (2, (0, v2))] [] φ x Q := by
  apply sf_79_17_v
  refine ⟨by omega, by omega, ?_⟩
  have f1 := iv_ar (a := 20) (s := 0) (t := 6) (lo := (-1 : Int)) (u := 7) (z := v1) hI (by decide +kernel) (by omega) (by omega)
  refine ⟨by unfold hi; omega, by unfold hi; omega, fun q2 => ?_, fun q2 => ?_⟩
  · skip
    refine ⟨by omega, by omega, ?_⟩
    have f2 := iv_ar (a := 19) (s := 0) (t := 8) (lo := (-1 : Int)) (u := 5) (z := v2) hI (by decide +kernel) (by omega) (by omega)
    refine ⟨by unfold hi; omega, by unfold hi; omega, fun q4 => ?_, fun q4 => ?_⟩
    · skip
      exact hQ 0 φ hI (fr_rf) ⟨by omega, by omega⟩
    · skip
      exact hQ 2 φ hI (fr_rf) ⟨by omega, by omega⟩
  · skip
    exact hQ 1 φ hI (fr_rf) ⟨by omega, by omega⟩
theorem sf_87_17_v {sc : List Int} {d : Nat} {φ : hf_F} {x : Nat} {Q : Option jm_V → hf_F → Nat → Prop} 
    (H : hi (φ 17 3) ∧ (¬ (φ 17 3) = 0 → Q (some (0, 0)) φ x) ∧ (¬ (¬ (φ 17 3) = 0) → hi (φ 17 1) ∧ hi (-1 : Int) ∧ (¬ (φ 17 1) = (-1 : Int) → Q (some (0, 0)) φ x) ∧ (¬ (¬ (φ 17 1) = (-1 : Int)) → Q (some (0, 1)) φ x))) :
    hw sc d 87 0 [(0, (2, 17))] [] φ x Q := by
  refine hw_ald (b := 0) (e := 0) (by decide +kernel) rfl (by decide) ?_
  refine hr_gi (w := φ 17 3) (b := 4) (e := 3) 17 rfl (by decide +kernel) rfl ?_
  obtain ⟨hz1, ht1, hf1⟩ := H
  refine hw_if (a0 := 0) (b := 1) (e := 19) (by decide +kernel) hz1 (fun q => ?_) (fun q => ?_)
  · have H := ht1 q
    refine hw_k (c := 0) (b := 0) (e := 1) (by decide +kernel) ?_
    exact hw_ret (a0 := 0) (e := 0) (by decide +kernel) (Or.inl rfl) H
  · have H := hf1 q
    refine hw_ald (b := 0) (e := 0) (by decide +kernel) rfl (by decide) ?_
    refine hr_gi (w := φ 17 1) (b := 4) (e := 1) 17 rfl (by decide +kernel) rfl ?_
    refine hw_k (c := (-1 : Int)) (b := 0) (e := 1) (by decide +kernel) ?_
    obtain ⟨hz3, hy3, ht3, hf3⟩ := H
    refine hw_if2 (a0 := 0) (b := 1) (e := 19) (by decide +kernel) hz3 hy3 (fun q => ?_) (fun q => ?_)
    · have H := ht3 q
      refine hw_k (c := 0) (b := 0) (e := 1) (by decide +kernel) ?_
      exact hw_ret (a0 := 0) (e := 0) (by decide +kernel) (Or.inl rfl) H
    · have H := hf3 q
      refine hw_k (c := 1) (b := 0) (e := 1) (by decide +kernel) ?_
      refine hw_goto (a0 := 0) (b := 0) (e := 20) (by decide +kernel) ?_
      exact hw_ret (a0 := 0) (e := 0) (by decide +kernel) (Or.inl rfl) H
theorem sf_87_17 {sc : List Int} {d : Nat} {φ : hf_F} {x : Nat} {Q : Option jm_V → hf_F → Nat → Prop}  (hI : Inv φ)  (hQ : ∀ (r : Int) (ψ : hf_F), Inv ψ → Fr [] φ ψ → 0 ≤ r ∧ r ≤ 1 → Q (some (0, r)) ψ x) : hw sc d 87 0 [(0, (2, 17))] [] φ x Q := by
  apply sf_87_17_v
  have f1 := iv_at (a := 17) (k := 3) (lo := (-2147483648 : Int)) (u := 2147483647) hI (by decide +kernel)
  refine ⟨by unfold hi; omega, fun q1 => ?_, fun q1 => ?_⟩
  · skip
    exact hQ 0 φ hI (fr_rf) ⟨by omega, by omega⟩
  · skip
    have f2 := iv_at (a := 17) (k := 1) (lo := (-1 : Int)) (u := 7) hI (by decide +kernel)
    refine ⟨by unfold hi; omega, by unfold hi; omega, fun q3 => ?_, fun q3 => ?_⟩
    · skip
      exact hQ 0 φ hI (fr_rf) ⟨by omega, by omega⟩
    · skip
      exact hQ 1 φ hI (fr_rf) ⟨by omega, by omega⟩
theorem sf_52_17_v {sc : List Int} {d : Nat} {φ : hf_F} {x : Nat} {Q : Option jm_V → hf_F → Nat → Prop} {v1 v2 : Int}
    (H : 0 ≤ v1 ∧ v1 < 6 ∧ (0 ≤ v2 ∧ v2 < 8 ∧ (Q none (hf_up (hf_up φ 20 ((v1).toNat) v2) 19 ((v2).toNat) v1) x))) :
    hw sc d 52 0 [(0, (2, 17)), (1, (0, v1)), (2, (0, v2))] [] φ x Q := by
  refine hw_ald (b := 0) (e := 0) (by decide +kernel) rfl (by decide) ?_
  refine hr_gr (w := 20) (b := 4) (e := 8) 17 rfl (by decide +kernel) ?_
  refine hw_ld (b := 1) (e := 0) (by decide +kernel) rfl ?_
  refine hw_ld (b := 2) (e := 0) (by decide +kernel) rfl ?_
  obtain ⟨hl1, hu1, H⟩ := H
  refine hr_as (a0 := 0) (e := 4) (n := 6) 20 rfl (by decide +kernel) hl1 hu1 ?_
  refine hw_ald (b := 0) (e := 0) (by decide +kernel) rfl (by decide) ?_
  refine hr_gr (w := 19) (b := 4) (e := 7) 17 rfl (by decide +kernel) ?_
  refine hw_ld (b := 2) (e := 0) (by decide +kernel) rfl ?_
  refine hw_ld (b := 1) (e := 0) (by decide +kernel) rfl ?_
  obtain ⟨hl2, hu2, H⟩ := H
  refine hr_as (a0 := 0) (e := 4) (n := 8) 19 rfl (by decide +kernel) hl2 hu2 ?_
  exact hw_vret (a0 := 0) (e := 0) (by decide +kernel) H
theorem sf_52_17 {sc : List Int} {d : Nat} {φ : hf_F} {x : Nat} {Q : Option jm_V → hf_F → Nat → Prop} {v1 v2 : Int} (hI : Inv φ) (h1a : 0 ≤ v1) (h1b : v1 ≤ 5) (h2a : 0 ≤ v2) (h2b : v2 ≤ 7) (hQ : ∀ ψ : hf_F, Inv ψ → Fr [19, 20] φ ψ → Q none ψ x) : hw sc d 52 0 [(0, (2, 17)), (1, (0, v1)), (2, (0, v2))] [] φ x Q := by
  apply sf_52_17_v
  refine ⟨by omega, by omega, ?_⟩
  have i1 : Inv (hf_up φ 20 ((v1).toNat) v2) := iv_upI (s := 0) (t := 6) (lo := (-1 : Int)) (u := 7) (z := v1) hI (by decide +kernel) (by omega) (by omega) (by omega) (by omega)
  have r1 : Fr [19, 20] φ (hf_up φ 20 ((v1).toNat) v2) := fr_up (fr_rf) (by decide)
  refine ⟨by omega, by omega, ?_⟩
  have i2 : Inv (hf_up (hf_up φ 20 ((v1).toNat) v2) 19 ((v2).toNat) v1) := iv_upI (s := 0) (t := 8) (lo := (-1 : Int)) (u := 5) (z := v2) i1 (by decide +kernel) (by omega) (by omega) (by omega) (by omega)
  have r2 : Fr [19, 20] φ (hf_up (hf_up φ 20 ((v1).toNat) v2) 19 ((v2).toNat) v1) := fr_up r1 (by decide)
  exact hQ (hf_up (hf_up φ 20 ((v1).toNat) v2) 19 ((v2).toNat) v1) i2 r2
theorem sf_84_17_v {sc : List Int} {d : Nat} {φ : hf_F} {x : Nat} {Q : Option jm_V → hf_F → Nat → Prop} {v1 : Int}
    (H : 0 ≤ v1 ∧ v1 < 6 ∧ (hi (φ 20 ((v1).toNat)) ∧ hi (-1 : Int) ∧ ((φ 20 ((v1).toNat)) = (-1 : Int) → 0 ≤ v1 ∧ v1 < 6 ∧ (Q none (hf_up φ 20 ((v1).toNat) (-1 : Int)) x)) ∧ (¬ (φ 20 ((v1).toNat)) = (-1 : Int) → 0 ≤ (φ 20 ((v1).toNat)) ∧ (φ 20 ((v1).toNat)) < 8 ∧ (0 ≤ v1 ∧ v1 < 6 ∧ (Q none (hf_up (hf_up φ 19 ((φ 20 ((v1).toNat)).toNat) (-1 : Int)) 20 ((v1).toNat) (-1 : Int)) x))))) :
    hw sc d 84 0 [(0, (2, 17)), (1, (0, v1))] [] φ x Q := by
  refine hw_ald (b := 0) (e := 0) (by decide +kernel) rfl (by decide) ?_
  refine hr_gr (w := 20) (b := 4) (e := 8) 17 rfl (by decide +kernel) ?_
  refine hw_ld (b := 1) (e := 0) (by decide +kernel) rfl ?_
  obtain ⟨hl1, hu1, H⟩ := H
  refine hr_al (b := 0) (a0 := 0) (e := 0) (n := 6) (w := φ 20 ((v1).toNat)) 20 rfl (by decide +kernel) (by decide) hl1 hu1 rfl ?_
  refine hw_st (L' := (jm_st1 [(0, (2, 17)), (1, (0, v1))] 2 (0, φ 20 ((v1).toNat)))) (b := 2) (e := 0) (by decide +kernel) rfl ?_
  refine hw_ld (b := 2) (e := 0) (by decide +kernel) get_st1e ?_
  refine hw_k (c := (-1 : Int)) (b := 0) (e := 1) (by decide +kernel) ?_
  obtain ⟨hz2, hy2, ht2, hf2⟩ := H
  refine hw_if2 (a0 := 0) (b := 0) (e := 19) (by decide +kernel) hz2 hy2 (fun q => ?_) (fun q => ?_)
  · have H := ht2 q
    refine hw_ald (b := 0) (e := 0) (by decide +kernel) (get_st1 rfl (by decide) (fun q => absurd q.1 (by decide))) (by decide) ?_
    refine hr_gr (w := 20) (b := 4) (e := 8) 17 rfl (by decide +kernel) ?_
    refine hw_ld (b := 1) (e := 0) (by decide +kernel) (get_st1 rfl (by decide) (fun q => tg0 q.2)) ?_
    refine hw_k (c := (-1 : Int)) (b := 0) (e := 1) (by decide +kernel) ?_
    obtain ⟨hl3, hu3, H⟩ := H
    refine hr_as (a0 := 0) (e := 4) (n := 6) 20 rfl (by decide +kernel) hl3 hu3 ?_
    exact hw_vret (a0 := 0) (e := 0) (by decide +kernel) H
  · have H := hf2 q
    refine hw_ald (b := 0) (e := 0) (by decide +kernel) (get_st1 rfl (by decide) (fun q => absurd q.1 (by decide))) (by decide) ?_
    refine hr_gr (w := 19) (b := 4) (e := 7) 17 rfl (by decide +kernel) ?_
    refine hw_ld (b := 2) (e := 0) (by decide +kernel) get_st1e ?_
    refine hw_k (c := (-1 : Int)) (b := 0) (e := 1) (by decide +kernel) ?_
    obtain ⟨hl5, hu5, H⟩ := H
    refine hr_as (a0 := 0) (e := 4) (n := 8) 19 rfl (by decide +kernel) hl5 hu5 ?_
    refine hw_ald (b := 0) (e := 0) (by decide +kernel) (get_st1 rfl (by decide) (fun q => absurd q.1 (by decide))) (by decide) ?_
    refine hr_gr (w := 20) (b := 4) (e := 8) 17 rfl (by decide +kernel) ?_
    refine hw_ld (b := 1) (e := 0) (by decide +kernel) (get_st1 rfl (by decide) (fun q => tg0 q.2)) ?_
    refine hw_k (c := (-1 : Int)) (b := 0) (e := 1) (by decide +kernel) ?_
    obtain ⟨hl6, hu6, H⟩ := H
    refine hr_as (a0 := 0) (e := 4) (n := 6) 20 rfl (by decide +kernel) hl6 hu6 ?_
    exact hw_vret (a0 := 0) (e := 0) (by decide +kernel) H
theorem sf_84_17 {sc : List Int} {d : Nat} {φ : hf_F} {x : Nat} {Q : Option jm_V → hf_F → Nat → Prop} {v1 : Int} (hI : Inv φ) (h1a : 0 ≤ v1) (h1b : v1 ≤ 5) (hQ : ∀ ψ : hf_F, Inv ψ → Fr [19, 20] φ ψ → Q none ψ x) : hw sc d 84 0 [(0, (2, 17)), (1, (0, v1))] [] φ x Q := by
  apply sf_84_17_v
  refine ⟨by omega, by omega, ?_⟩
  have f1 := iv_ar (a := 20) (s := 0) (t := 6) (lo := (-1 : Int)) (u := 7) (z := v1) hI (by decide +kernel) (by omega) (by omega)
  refine ⟨by unfold hi; omega, by unfold hi; omega, fun q2 => ?_, fun q2 => ?_⟩
  · skip
    refine ⟨by omega, by omega, ?_⟩
    have i2 : Inv (hf_up φ 20 ((v1).toNat) (-1 : Int)) := iv_upI (s := 0) (t := 6) (lo := (-1 : Int)) (u := 7) (z := v1) hI (by decide +kernel) (by omega) (by omega) (by omega) (by omega)
    have r2 : Fr [19, 20] φ (hf_up φ 20 ((v1).toNat) (-1 : Int)) := fr_up (fr_rf) (by decide)
    exact hQ (hf_up φ 20 ((v1).toNat) (-1 : Int)) i2 r2
  · skip
    refine ⟨by omega, by omega, ?_⟩
    have i3 : Inv (hf_up φ 19 ((φ 20 ((v1).toNat)).toNat) (-1 : Int)) := iv_upI (s := 0) (t := 8) (lo := (-1 : Int)) (u := 5) (z := φ 20 ((v1).toNat)) hI (by decide +kernel) (by omega) (by omega) (by omega) (by omega)
    have r3 : Fr [19, 20] φ (hf_up φ 19 ((φ 20 ((v1).toNat)).toNat) (-1 : Int)) := fr_up (fr_rf) (by decide)
    refine ⟨by omega, by omega, ?_⟩
    have i4 : Inv (hf_up (hf_up φ 19 ((φ 20 ((v1).toNat)).toNat) (-1 : Int)) 20 ((v1).toNat) (-1 : Int)) := iv_upI (s := 0) (t := 6) (lo := (-1 : Int)) (u := 7) (z := v1) i3 (by decide +kernel) (by omega) (by omega) (by omega) (by omega)
    have r4 : Fr [19, 20] φ (hf_up (hf_up φ 19 ((φ 20 ((v1).toNat)).toNat) (-1 : Int)) 20 ((v1).toNat) (-1 : Int)) := fr_up r3 (by decide)
    exact hQ (hf_up (hf_up φ 19 ((φ 20 ((v1).toNat)).toNat) (-1 : Int)) 20 ((v1).toNat) (-1 : Int)) i4 r4
theorem sf_68_0_v {sc : List Int} {d : Nat} {φ : hf_F} {x : Nat} {Q : Option jm_V → hf_F → Nat → Prop} 
    (H : Q (some (0, φ 0 12)) φ x) :
    hw sc d 68 0 [(0, (2, 0))] [] φ x Q := by
  refine hw_ald (b := 0) (e := 0) (by decide +kernel) rfl (by decide) ?_
  refine hr_gi (w := φ 0 12) (b := 0) (e := 12) 0 rfl (by decide +kernel) rfl ?_
  exact hw_ret (a0 := 0) (e := 0) (by decide +kernel) (Or.inl rfl) H
theorem sf_68_0 {sc : List Int} {d : Nat} {φ : hf_F} {x : Nat} {Q : Option jm_V → hf_F → Nat → Prop}  (hI : Inv φ)  (hQ : ∀ (r : Int) (ψ : hf_F), Inv ψ → Fr [] φ ψ → True → Q (some (0, r)) ψ x) : hw sc d 68 0 [(0, (2, 0))] [] φ x Q := by
  apply sf_68_0_v
  have f1 := iv_at (a := 0) (k := 12) (lo := 0) (u := 4) hI (by decide +kernel)
  exact hQ (φ 0 12) φ hI (fr_rf) trivial
theorem sf_105_0_v {sc : List Int} {d : Nat} {φ : hf_F} {x : Nat} {Q : Option jm_V → hf_F → Nat → Prop} 
    (H : Q (some (0, φ 0 13)) φ x) :
    hw sc d 105 0 [(0, (2, 0))] [] φ x Q := by
  refine hw_ald (b := 0) (e := 0) (by decide +kernel) rfl (by decide) ?_
  refine hr_gi (w := φ 0 13) (b := 0) (e := 13) 0 rfl (by decide +kernel) rfl ?_
  exact hw_ret (a0 := 0) (e := 0) (by decide +kernel) (Or.inl rfl) H
theorem sf_105_0 {sc : List Int} {d : Nat} {φ : hf_F} {x : Nat} {Q : Option jm_V → hf_F → Nat → Prop}  (hI : Inv φ)  (hQ : ∀ (r : Int) (ψ : hf_F), Inv ψ → Fr [] φ ψ → True → Q (some (0, r)) ψ x) : hw sc d 105 0 [(0, (2, 0))] [] φ x Q := by
  apply sf_105_0_v
  have f1 := iv_at (a := 0) (k := 13) (lo := (-1 : Int)) (u := 7) hI (by decide +kernel)
  exact hQ (φ 0 13) φ hI (fr_rf) trivial
theorem sf_114_0_v {sc : List Int} {d : Nat} {φ : hf_F} {x : Nat} {Q : Option jm_V → hf_F → Nat → Prop} 
    (H : Q (some (0, φ 0 14)) φ x) :
    hw sc d 114 0 [(0, (2, 0))] [] φ x Q := by
  refine hw_ald (b := 0) (e := 0) (by decide +kernel) rfl (by decide) ?_
  refine hr_gi (w := φ 0 14) (b := 0) (e := 14) 0 rfl (by decide +kernel) rfl ?_
  exact hw_ret (a0 := 0) (e := 0) (by decide +kernel) (Or.inl rfl) H
theorem sf_114_0 {sc : List Int} {d : Nat} {φ : hf_F} {x : Nat} {Q : Option jm_V → hf_F → Nat → Prop}  (hI : Inv φ)  (hQ : ∀ (r : Int) (ψ : hf_F), Inv ψ → Fr [] φ ψ → True → Q (some (0, r)) ψ x) : hw sc d 114 0 [(0, (2, 0))] [] φ x Q := by
  apply sf_114_0_v
  have f1 := iv_at (a := 0) (k := 14) (lo := (-2147483648 : Int)) (u := 2147483647) hI (by decide +kernel)
  exact hQ (φ 0 14) φ hI (fr_rf) trivial
theorem sf_135_1_v {sc : List Int} {d : Nat} {φ : hf_F} {x : Nat} {Q : Option jm_V → hf_F → Nat → Prop} {v1 : Int}
    (H : hi (φ 1 5) ∧ hi 3 ∧ (¬ (φ 1 5) = 3 → Q (some (0, 0)) φ x) ∧ (¬ (¬ (φ 1 5) = 3) → hi (φ 1 7) ∧ hi v1 ∧ (¬ (φ 1 7) = v1 → Q (some (0, 0)) φ x) ∧ (¬ (¬ (φ 1 7) = v1) → Q (some (0, 1)) φ x))) :
    hw sc d 135 0 [(0, (2, 1)), (1, (0, v1))] [] φ x Q := by
  refine hw_ald (b := 0) (e := 0) (by decide +kernel) rfl (by decide) ?_
  refine hr_gi (w := φ 1 5) (b := 1) (e := 5) 1 rfl (by decide +kernel) rfl ?_
  refine hw_k (c := 3) (b := 0) (e := 1) (by decide +kernel) ?_
  obtain ⟨hz1, hy1, ht1, hf1⟩ := H
  refine hw_if2 (a0 := 0) (b := 1) (e := 20) (by decide +kernel) hz1 hy1 (fun q => ?_) (fun q => ?_)
  · have H := ht1 q
    refine hw_k (c := 0) (b := 0) (e := 1) (by decide +kernel) ?_
    exact hw_ret (a0 := 0) (e := 1) (by decide +kernel) (Or.inr ⟨rfl, by decide⟩) H
  · have H := hf1 q
    refine hw_ald (b := 0) (e := 0) (by decide +kernel) rfl (by decide) ?_
    refine hr_gi (w := φ 1 7) (b := 1) (e := 7) 1 rfl (by decide +kernel) rfl ?_
    refine hw_ld (b := 1) (e := 0) (by decide +kernel) rfl ?_
    obtain ⟨hz3, hy3, ht3, hf3⟩ := H
    refine hw_if2 (a0 := 0) (b := 1) (e := 20) (by decide +kernel) hz3 hy3 (fun q => ?_) (fun q => ?_)
    · have H := ht3 q
      refine hw_k (c := 0) (b := 0) (e := 1) (by decide +kernel) ?_
      exact hw_ret (a0 := 0) (e := 1) (by decide +kernel) (Or.inr ⟨rfl, by decide⟩) H
    · have H := hf3 q
      refine hw_k (c := 1) (b := 0) (e := 1) (by decide +kernel) ?_
      refine hw_goto (a0 := 0) (b := 0) (e := 21) (by decide +kernel) ?_
      exact hw_ret (a0 := 0) (e := 1) (by decide +kernel) (Or.inr ⟨rfl, by decide⟩) H
theorem sf_135_1 {sc : List Int} {d : Nat} {φ : hf_F} {x : Nat} {Q : Option jm_V → hf_F → Nat → Prop} {v1 : Int} (hI : Inv φ) (h1a : 0 ≤ v1) (h1b : v1 ≤ 22) (hQ : ∀ (r : Int) (ψ : hf_F), Inv ψ → Fr [] φ ψ → 0 ≤ r ∧ r ≤ 1 → Q (some (0, r)) ψ x) : hw sc d 135 0 [(0, (2, 1)), (1, (0, v1))] [] φ x Q := by
  apply sf_135_1_v
  have f1 := iv_at (a := 1) (k := 5) (lo := 0) (u := 5) hI (by decide +kernel)
  refine ⟨by unfold hi; omega, by unfold hi; omega, fun q1 => ?_, fun q1 => ?_⟩
  · skip
    exact hQ 0 φ hI (fr_rf) ⟨by omega, by omega⟩
  · skip
    have f2 := iv_at (a := 1) (k := 7) (lo := (-128 : Int)) (u := 999) hI (by decide +kernel)
    refine ⟨by unfold hi; omega, by unfold hi; omega, fun q3 => ?_, fun q3 => ?_⟩
    · skip
      exact hQ 0 φ hI (fr_rf) ⟨by omega, by omega⟩
    · skip
      exact hQ 1 φ hI (fr_rf) ⟨by omega, by omega⟩
theorem sf_37_1_v {sc : List Int} {d : Nat} {φ : hf_F} {x : Nat} {Q : Option jm_V → hf_F → Nat → Prop} {v1 : Int}
    (H : Q (some (0, 0)) (hf_up (hf_up φ 1 9 v1) 1 10 (φ 1 6)) x) :
    hw sc d 37 0 [(0, (2, 1)), (1, (0, v1))] [] φ x Q := by
  refine hw_ald (b := 0) (e := 0) (by decide +kernel) rfl (by decide) ?_
  refine hw_ld (b := 1) (e := 0) (by decide +kernel) rfl ?_
  refine hr_pi (b := 1) (e := 9) 1 rfl (by decide +kernel) ?_
  refine hw_ald (b := 0) (e := 0) (by decide +kernel) rfl (by decide) ?_
  refine hw_ald (b := 0) (e := 0) (by decide +kernel) rfl (by decide) ?_
  refine hr_gi (w := φ 1 6) (b := 1) (e := 6) 1 rfl (by decide +kernel) (hf_up_ne (fun q => absurd q.2 (by decide))) ?_
  refine hr_pi (b := 1) (e := 10) 1 rfl (by decide +kernel) ?_
  refine hw_k (c := 0) (b := 0) (e := 1) (by decide +kernel) ?_
  exact hw_ret (a0 := 0) (e := 1) (by decide +kernel) (Or.inr ⟨rfl, by decide⟩) H
theorem sf_37_1 {sc : List Int} {d : Nat} {φ : hf_F} {x : Nat} {Q : Option jm_V → hf_F → Nat → Prop} {v1 : Int} (hI : Inv φ) (h1a : 1 ≤ v1) (h1b : v1 ≤ 4) (hQ : ∀ (r : Int) (ψ : hf_F), Inv ψ → Fr [1] φ ψ → 0 ≤ r ∧ r ≤ 1 → Q (some (0, r)) ψ x) : hw sc d 37 0 [(0, (2, 1)), (1, (0, v1))] [] φ x Q := by
  apply sf_37_1_v
  have i1 : Inv (hf_up φ 1 9 v1) := iv_up (lo := 0) (u := 4) hI (by decide +kernel) (by omega) (by omega)
  have r1 : Fr [1] φ (hf_up φ 1 9 v1) := fr_up (fr_rf) (by decide)
  have f2 := iv_at (a := 1) (k := 6) (lo := 0) (u := 940) hI (by decide +kernel)
  have i3 : Inv (hf_up (hf_up φ 1 9 v1) 1 10 (φ 1 6)) := iv_up (lo := 0) (u := 940) i1 (by decide +kernel) (by omega) (by omega)
  have r3 : Fr [1] φ (hf_up (hf_up φ 1 9 v1) 1 10 (φ 1 6)) := fr_up r1 (by decide)
  exact hQ 0 (hf_up (hf_up φ 1 9 v1) 1 10 (φ 1 6)) i3 r3 ⟨by omega, by omega⟩
theorem sf_108_17_v4 {sc : List Int} {d : Nat} {φ : hf_F} {x : Nat} {Q : Option jm_V → hf_F → Nat → Prop} {L : jm_L} {l1 l2 l3 : Int} (g0 : jm_get L 0 = some (2, 17)) (g1 : jm_get L 1 = some (0, l1)) (g2 : jm_get L 2 = some (0, l2)) (g3 : jm_get L 3 = some (0, l3))
    (H : 0 ≤ l1 ∧ l1 < 6 ∧ (hi l3 ∧ hi (φ 21 ((l1).toNat)) ∧ ((φ 21 ((l1).toNat)) ≤ l3 → Q (some (0, l2)) φ x) ∧ (¬ (φ 21 ((l1).toNat)) ≤ l3 → hw sc d 71 0 [(0, (2, 17)), (1, (0, l1)), (2, (0, l3))] [] φ x (fun r ψ4 y4 => y4 = x ∧ (∃ z4 : Int, r = some (0, z4) ∧ (hw sc (d + 1) 108 4 (jm_st1 (jm_st1 L 2 (0, hb_or l2 (hb_shl 1 z4))) 3 (0, l3 + 1)) [] ψ4 x Q)))))) :
    hw sc (d + 1) 108 4 L [] φ x Q := by
  refine hw_ld (b := 3) (e := 0) (by decide +kernel) g3 ?_
  refine hw_ald (b := 0) (e := 0) (by decide +kernel) g0 (by decide) ?_
  refine hr_gr (w := 21) (b := 4) (e := 9) 17 rfl (by decide +kernel) ?_
  refine hw_ld (b := 1) (e := 0) (by decide +kernel) g1 ?_
  obtain ⟨hl1, hu1, H⟩ := H
  refine hr_al (b := 0) (a0 := 0) (e := 0) (n := 6) (w := φ 21 ((l1).toNat)) 21 rfl (by decide +kernel) (by decide) hl1 hu1 rfl ?_
  obtain ⟨hz2, hy2, ht2, hf2⟩ := H
  refine hw_if2 (a0 := 0) (b := 3) (e := 31) (by decide +kernel) hz2 hy2 (fun q => ?_) (fun q => ?_)
  · have H := ht2 q
    refine hw_ld (b := 2) (e := 0) (by decide +kernel) g2 ?_
    exact hw_ret (a0 := 0) (e := 0) (by decide +kernel) (Or.inl rfl) H
  · have H := hf2 q
    refine hw_ld (b := 2) (e := 0) (by decide +kernel) g2 ?_
    refine hw_k (c := 1) (b := 0) (e := 1) (by decide +kernel) ?_
    refine hw_ald (b := 0) (e := 0) (by decide +kernel) g0 (by decide) ?_
    refine hw_ld (b := 1) (e := 0) (by decide +kernel) g1 ?_
    refine hw_ld (b := 3) (e := 0) (by decide +kernel) g3 ?_
    refine hr_call (a0 := 14) (b := 71) (e := 3) (nl := 3) (As := [(0, l1), (0, l3)]) (R := [(0, 1), (0, l2)]) 17 rfl (by decide +kernel) rfl rfl (Nat.le_of_ble_eq_true rfl) (Nat.le_of_ble_eq_true rfl) ?_
    refine hw_mono H ?_
    rintro r ψ4 y4 ⟨hyx, z4, hr, H⟩
    subst hyx
    subst hr
    refine ⟨hne0, ?_⟩
    show hw sc (d + 1) 108 22 L [(0, z4), (0, 1), (0, l2)] ψ4 y4 Q
    refine hw_bin (w := hb_shl 1 z4) (a0 := 0) (b := 6) (e := 0) (by decide +kernel) rfl ?_
    refine hw_bin (w := hb_or l2 (hb_shl 1 z4)) (a0 := 0) (b := 4) (e := 0) (by decide +kernel) rfl ?_
    refine hw_st (L' := (jm_st1 L 2 (0, hb_or l2 (hb_shl 1 z4)))) (b := 2) (e := 0) (by decide +kernel) rfl ?_
    refine hw_inc (L' := (jm_st1 (jm_st1 L 2 (0, hb_or l2 (hb_shl 1 z4))) 3 (0, l3 + 1))) (c := 1) (b := 3) (e := 0) (by decide +kernel) (get_st1 g3 (by decide) (fun q => absurd q.1 (by decide))) rfl ?_
    refine hw_goto (a0 := 0) (b := 0) (e := 4) (by decide +kernel) ?_
    exact H
theorem sf_108_17_l4 {sc : List Int} {d x : Nat} {Q : Option jm_V → hf_F → Nat → Prop} : ∀ (n : Nat) (φ : hf_F) (L : jm_L) (l1 l2 l3 : Int), jm_get L 0 = some (2, 17) → jm_get L 1 = some (0, l1) → jm_get L 2 = some (0, l2) → jm_get L 3 = some (0, l3) → Inv φ → 6 - l3 < (n : Int) → 0 ≤ l1 → l1 ≤ 5 → (-2147483648 : Int) ≤ l2 → l2 ≤ 2147483647 → 0 ≤ l3 → l3 ≤ 6 → (∀ (r : Int) (ψ : hf_F), Inv ψ → Fr [] φ ψ → True → Q (some (0, r)) ψ x) → hw sc (d + 1) 108 4 L [] φ x Q := by
  intro n
  induction n with
  | zero =>
    intro φ L l1 l2 l3 g0 g1 g2 g3 hI hM b1a b1b b2a b2b b3a b3b hQ
    exfalso
    omega
  | succ n ih =>
    intro φ L l1 l2 l3 g0 g1 g2 g3 hI hM b1a b1b b2a b2b b3a b3b hQ
    refine sf_108_17_v4 g0 g1 g2 g3 ?_
    refine ⟨by omega, by omega, ?_⟩
    have f1 := iv_ar (a := 21) (s := 0) (t := 6) (lo := 0) (u := 6) (z := l1) hI (by decide +kernel) (by omega) (by omega)
    refine ⟨by unfold hi; omega, by unfold hi; omega, fun q2 => ?_, fun q2 => ?_⟩
    · skip
      exact hQ l2 φ hI (fr_rf) trivial
    · skip
      refine sf_71_17 (φ := φ) hI (by omega) (by omega) (by omega) (by omega) (fun z4 ψ4 hI4 hF4 hp4 => ⟨rfl, z4, rfl, ?_⟩)
      have hG4 : Fr [] φ ψ4 := fr_tr (fr_rf) hF4 (by decide)
      have f2 := hr_shl 1 z4
      have f3 := hr_or l2 (hb_shl 1 z4)
      exact ih ψ4 (jm_st1 (jm_st1 L 2 (0, hb_or l2 (hb_shl 1 z4))) 3 (0, l3 + 1)) l1 (hb_or l2 (hb_shl 1 z4)) (l3 + 1) (get_st1 (get_st1 g0 (by decide) (fun q => absurd q.1 (by decide))) (by decide) (fun q => absurd q.1 (by decide))) (get_st1 (get_st1 g1 (by decide) (fun q => tg0 q.2)) (by decide) (fun q => absurd q.1 (by decide))) (get_st1 get_st1e (by decide) (fun q => tg0 q.2)) get_st1e hI4 (by omega) (by omega) (by omega) (by omega) (by omega) (by omega) (by omega) (fun rr χ hIχ hFχ hpχ => hQ rr χ hIχ (fr_tr hG4 hFχ (by decide)) hpχ)
theorem sf_108_17_v {sc : List Int} {d : Nat} {φ : hf_F} {x : Nat} {Q : Option jm_V → hf_F → Nat → Prop} {v1 : Int}
    (H : hw sc (d + 1) 108 4 (jm_st1 (jm_st1 [(0, (2, 17)), (1, (0, v1))] 2 (0, 0)) 3 (0, 0)) [] φ x Q) :
    hw sc (d + 1) 108 0 [(0, (2, 17)), (1, (0, v1))] [] φ x Q := by
  refine hw_k (c := 0) (b := 0) (e := 1) (by decide +kernel) ?_
  refine hw_st (L' := (jm_st1 [(0, (2, 17)), (1, (0, v1))] 2 (0, 0))) (b := 2) (e := 0) (by decide +kernel) rfl ?_
  refine hw_k (c := 0) (b := 0) (e := 1) (by decide +kernel) ?_
  refine hw_st (L' := (jm_st1 (jm_st1 [(0, (2, 17)), (1, (0, v1))] 2 (0, 0)) 3 (0, 0))) (b := 3) (e := 0) (by decide +kernel) rfl ?_
  exact H
theorem sf_108_17 {sc : List Int} {d : Nat} {φ : hf_F} {x : Nat} {Q : Option jm_V → hf_F → Nat → Prop} {v1 : Int} (hI : Inv φ) (h1a : 0 ≤ v1) (h1b : v1 ≤ 5) (hQ : ∀ (r : Int) (ψ : hf_F), Inv ψ → Fr [] φ ψ → True → Q (some (0, r)) ψ x) : hw sc (d + 1) 108 0 [(0, (2, 17)), (1, (0, v1))] [] φ x Q := by
  apply sf_108_17_v
  exact sf_108_17_l4 ((6 - 0 : Int).toNat + 1) φ (jm_st1 (jm_st1 [(0, (2, 17)), (1, (0, v1))] 2 (0, 0)) 3 (0, 0)) v1 0 0 (get_st1 (get_st1 rfl (by decide) (fun q => absurd q.1 (by decide))) (by decide) (fun q => absurd q.1 (by decide))) (get_st1 (get_st1 rfl (by decide) (fun q => tg0 q.2)) (by decide) (fun q => absurd q.1 (by decide))) (get_st1 get_st1e (by decide) (fun q => tg0 q.2)) get_st1e hI (by omega) (by omega) (by omega) (by omega) (by omega) (by omega) (by omega) (fun rr χ hIχ hFχ hpχ => hQ rr χ hIχ (fr_tr (fr_rf) hFχ (by decide)) hpχ)
theorem sf_55_17_v {sc : List Int} {d : Nat} {φ : hf_F} {x : Nat} {Q : Option jm_V → hf_F → Nat → Prop} {v1 v2 : Int}
    (H : 0 ≤ v1 ∧ v1 < 6 ∧ (0 ≤ ((v1 * 6) + (φ 21 ((v1).toNat))) ∧ ((v1 * 6) + (φ 21 ((v1).toNat))) < 36 ∧ (0 ≤ v1 ∧ v1 < 6 ∧ (0 ≤ v1 ∧ v1 < 6 ∧ (Q none (hf_up (hf_up φ 22 (((v1 * 6) + (φ 21 ((v1).toNat))).toNat) v2) 21 ((v1).toNat) ((φ 21 ((v1).toNat)) + 1)) x))))) :
    hw sc d 55 0 [(0, (2, 17)), (1, (0, v1)), (2, (0, v2))] [] φ x Q := by
  refine hw_ald (b := 0) (e := 0) (by decide +kernel) rfl (by decide) ?_
  refine hr_gr (w := 22) (b := 4) (e := 10) 17 rfl (by decide +kernel) ?_
  refine hw_ld (b := 1) (e := 0) (by decide +kernel) rfl ?_
  refine hw_k (c := 6) (b := 1) (e := 2) (by decide +kernel) ?_
  refine hw_bin (w := v1 * 6) (a0 := 0) (b := 2) (e := 0) (by decide +kernel) rfl ?_
  refine hw_ald (b := 0) (e := 0) (by decide +kernel) rfl (by decide) ?_
  refine hr_gr (w := 21) (b := 4) (e := 9) 17 rfl (by decide +kernel) ?_
  refine hw_ld (b := 1) (e := 0) (by decide +kernel) rfl ?_
  obtain ⟨hl1, hu1, H⟩ := H
  refine hr_al (b := 0) (a0 := 0) (e := 0) (n := 6) (w := φ 21 ((v1).toNat)) 21 rfl (by decide +kernel) (by decide) hl1 hu1 rfl ?_
  refine hw_bin (w := (v1 * 6) + (φ 21 ((v1).toNat))) (a0 := 0) (b := 0) (e := 0) (by decide +kernel) rfl ?_
  refine hw_ld (b := 2) (e := 0) (by decide +kernel) rfl ?_
  obtain ⟨hl2, hu2, H⟩ := H
  refine hr_as (a0 := 0) (e := 4) (n := 36) 22 rfl (by decide +kernel) hl2 hu2 ?_
  refine hw_ald (b := 0) (e := 0) (by decide +kernel) rfl (by decide) ?_
  refine hr_gr (w := 21) (b := 4) (e := 9) 17 rfl (by decide +kernel) ?_
  refine hw_ld (b := 1) (e := 0) (by decide +kernel) rfl ?_
  refine hw_dup2 (a0 := 0) (e := 0) (by decide +kernel) (by decide) (by decide) ?_
  obtain ⟨hl3, hu3, H⟩ := H
  refine hr_al (b := 0) (a0 := 0) (e := 0) (n := 6) (w := φ 21 ((v1).toNat)) 21 rfl (by decide +kernel) (by decide) hl3 hu3 (hf_up_ne (fun q => absurd q.1 (by decide))) ?_
  refine hw_k (c := 1) (b := 0) (e := 1) (by decide +kernel) ?_
  refine hw_bin (w := (φ 21 ((v1).toNat)) + 1) (a0 := 0) (b := 0) (e := 0) (by decide +kernel) rfl ?_
  obtain ⟨hl4, hu4, H⟩ := H
  refine hr_as (a0 := 0) (e := 4) (n := 6) 21 rfl (by decide +kernel) hl4 hu4 ?_
  exact hw_vret (a0 := 0) (e := 0) (by decide +kernel) H
theorem sf_55_17 {sc : List Int} {d : Nat} {φ : hf_F} {x : Nat} {Q : Option jm_V → hf_F → Nat → Prop} {v1 v2 : Int} (hI : Inv φ) (h1a : 0 ≤ v1) (h1b : v1 ≤ 5) (h2a : 0 ≤ v2) (h2b : v2 ≤ 7) (hx0 : 0 ≤ φ 21 ((v1).toNat) ∧ φ 21 ((v1).toNat) ≤ 5) (hQ : ∀ ψ : hf_F, Inv ψ → Fr [21, 22] φ ψ → Q none ψ x) : hw sc d 55 0 [(0, (2, 17)), (1, (0, v1)), (2, (0, v2))] [] φ x Q := by
  apply sf_55_17_v
  refine ⟨by omega, by omega, ?_⟩
  have f1 := iv_ar (a := 21) (s := 0) (t := 6) (lo := 0) (u := 6) (z := v1) hI (by decide +kernel) (by omega) (by omega)
  refine ⟨by omega, by omega, ?_⟩
  have i2 : Inv (hf_up φ 22 (((v1 * 6) + (φ 21 ((v1).toNat))).toNat) v2) := iv_upI (s := 0) (t := 36) (lo := 0) (u := 7) (z := (v1 * 6) + (φ 21 ((v1).toNat))) hI (by decide +kernel) (by omega) (by omega) (by omega) (by omega)
  have r2 : Fr [21, 22] φ (hf_up φ 22 (((v1 * 6) + (φ 21 ((v1).toNat))).toNat) v2) := fr_up (fr_rf) (by decide)
  refine ⟨by omega, by omega, ?_⟩
  refine ⟨by omega, by omega, ?_⟩
  have i3 : Inv (hf_up (hf_up φ 22 (((v1 * 6) + (φ 21 ((v1).toNat))).toNat) v2) 21 ((v1).toNat) ((φ 21 ((v1).toNat)) + 1)) := iv_upI (s := 0) (t := 6) (lo := 0) (u := 6) (z := v1) i2 (by decide +kernel) (by omega) (by omega) (by omega) (by omega)
  have r3 : Fr [21, 22] φ (hf_up (hf_up φ 22 (((v1 * 6) + (φ 21 ((v1).toNat))).toNat) v2) 21 ((v1).toNat) ((φ 21 ((v1).toNat)) + 1)) := fr_up r2 (by decide)
  exact hQ (hf_up (hf_up φ 22 (((v1 * 6) + (φ 21 ((v1).toNat))).toNat) v2) 21 ((v1).toNat) ((φ 21 ((v1).toNat)) + 1)) i3 r3
theorem sf_12_23_k1_0_v5 {sc : List Int} {d : Nat} {φ : hf_F} {x : Nat} {Q : Option jm_V → hf_F → Nat → Prop} {L : jm_L} {l2 : Int} (g0 : jm_get L 0 = some (2, 23)) (g1 : jm_get L 1 = some (0, 0)) (g2 : jm_get L 2 = some (0, l2)) (g3 : jm_get L 3 = some (0, 6))
    (H : hi l2 ∧ hi 6 ∧ (6 ≤ l2 → Q none φ x) ∧ (¬ 6 ≤ l2 → 0 ≤ l2 ∧ l2 < 6 ∧ (hw sc d 12 5 (jm_st1 L 2 (0, l2 + 1)) [] (hf_up φ 23 ((l2).toNat) 0) x Q))) :
    hw sc d 12 5 L [] φ x Q := by
  refine hw_ld (b := 2) (e := 0) (by decide +kernel) g2 ?_
  refine hw_ld (b := 3) (e := 0) (by decide +kernel) g3 ?_
  obtain ⟨hz1, hy1, ht1, hf1⟩ := H
  refine hw_if2 (a0 := 0) (b := 3) (e := 20) (by decide +kernel) hz1 hy1 (fun q => ?_) (fun q => ?_)
  · have H := ht1 q
    exact hw_vret (a0 := 0) (e := 0) (by decide +kernel) H
  · have H := hf1 q
    refine hw_ald (b := 0) (e := 0) (by decide +kernel) g0 (by decide) ?_
    refine hw_ld (b := 2) (e := 0) (by decide +kernel) g2 ?_
    refine hw_ld (b := 1) (e := 0) (by decide +kernel) g1 ?_
    obtain ⟨hl3, hu3, H⟩ := H
    refine hr_as (a0 := 0) (e := 4) (n := 6) 23 rfl (by decide +kernel) hl3 hu3 ?_
    refine hw_inc (L' := (jm_st1 L 2 (0, l2 + 1))) (c := 1) (b := 2) (e := 0) (by decide +kernel) g2 rfl ?_
    refine hw_goto (a0 := 0) (b := 0) (e := 5) (by decide +kernel) ?_
    exact H
theorem sf_12_23_k1_0_l5 {sc : List Int} {d x : Nat} {Q : Option jm_V → hf_F → Nat → Prop} : ∀ (n : Nat) (φ : hf_F) (L : jm_L) (l2 : Int), jm_get L 0 = some (2, 23) → jm_get L 1 = some (0, 0) → jm_get L 2 = some (0, l2) → jm_get L 3 = some (0, 6) → Inv φ → 6 - l2 < (n : Int) → 0 ≤ l2 → l2 ≤ 6 → (∀ ψ : hf_F, Inv ψ → Fr [23] φ ψ → Q none ψ x) → hw sc d 12 5 L [] φ x Q := by
  intro n
  induction n with
  | zero =>
    intro φ L l2 g0 g1 g2 g3 hI hM b2a b2b hQ
    exfalso
    omega
  | succ n ih =>
    intro φ L l2 g0 g1 g2 g3 hI hM b2a b2b hQ
    refine sf_12_23_k1_0_v5 g0 g1 g2 g3 ?_
    refine ⟨by unfold hi; omega, by unfold hi; omega, fun q1 => ?_, fun q1 => ?_⟩
    · skip
      exact hQ φ hI (fr_rf)
    · skip
      refine ⟨by omega, by omega, ?_⟩
      have i1 : Inv (hf_up φ 23 ((l2).toNat) 0) := iv_upI (s := 0) (t := 6) (lo := 0) (u := 5) (z := l2) hI (by decide +kernel) (by omega) (by omega) (by omega) (by omega)
      have r1 : Fr [23] φ (hf_up φ 23 ((l2).toNat) 0) := fr_up (fr_rf) (by decide)
      exact ih (hf_up φ 23 ((l2).toNat) 0) (jm_st1 L 2 (0, l2 + 1)) (l2 + 1) (get_st1 g0 (by decide) (fun q => absurd q.1 (by decide))) (get_st1 g1 (by decide) (fun q => tg0 q.2)) get_st1e (get_st1 g3 (by decide) (fun q => absurd q.1 (by decide))) i1 (by omega) (by omega) (by omega) (fun χ hIχ hFχ => hQ χ hIχ (fr_tr r1 hFχ (by decide)))
theorem sf_12_23_k1_0_v {sc : List Int} {d : Nat} {φ : hf_F} {x : Nat} {Q : Option jm_V → hf_F → Nat → Prop} 
    (H : hw sc d 12 5 (jm_st1 (jm_st1 [(0, (2, 23)), (1, (0, 0))] 2 (0, 0)) 3 (0, 6)) [] φ x Q) :
    hw sc d 12 0 [(0, (2, 23)), (1, (0, 0))] [] φ x Q := by
  refine hw_k (c := 0) (b := 0) (e := 1) (by decide +kernel) ?_
  refine hw_st (L' := (jm_st1 [(0, (2, 23)), (1, (0, 0))] 2 (0, 0))) (b := 2) (e := 0) (by decide +kernel) rfl ?_
  refine hw_ald (b := 0) (e := 0) (by decide +kernel) (get_st1 rfl (by decide) (fun q => absurd q.1 (by decide))) (by decide) ?_
  refine hr_len (n := 6) (a0 := 0) (b := 0) (e := 0) 23 rfl (by decide +kernel) ?_
  refine hw_st (L' := (jm_st1 (jm_st1 [(0, (2, 23)), (1, (0, 0))] 2 (0, 0)) 3 (0, 6))) (b := 3) (e := 0) (by decide +kernel) rfl ?_
  exact H
theorem sf_12_23_k1_0 {sc : List Int} {d : Nat} {φ : hf_F} {x : Nat} {Q : Option jm_V → hf_F → Nat → Prop}  (hI : Inv φ)  (hQ : ∀ ψ : hf_F, Inv ψ → Fr [23] φ ψ → Q none ψ x) : hw sc d 12 0 [(0, (2, 23)), (1, (0, 0))] [] φ x Q := by
  apply sf_12_23_k1_0_v
  exact sf_12_23_k1_0_l5 ((6 - 0 : Int).toNat + 1) φ (jm_st1 (jm_st1 [(0, (2, 23)), (1, (0, 0))] 2 (0, 0)) 3 (0, 6)) 0 (get_st1 (get_st1 rfl (by decide) (fun q => absurd q.1 (by decide))) (by decide) (fun q => absurd q.1 (by decide))) (get_st1 (get_st1 rfl (by decide) (fun q => tg0 q.2)) (by decide) (fun q => absurd q.1 (by decide))) (get_st1 get_st1e (by decide) (fun q => tg0 q.2)) get_st1e hI (by omega) (by omega) (by omega) (fun χ hIχ hFχ => hQ χ hIχ (fr_tr (fr_rf) hFχ (by decide)))
theorem sf_88_17_v {sc : List Int} {d : Nat} {φ : hf_F} {x : Nat} {Q : Option jm_V → hf_F → Nat → Prop} 
    (H : hw sc d 12 0 [(0, (2, 23)), (1, (0, 0))] [] (hf_up (hf_up (hf_up φ 17 3 0) 17 1 (-1 : Int)) 17 2 (-1 : Int)) x (fun r ψ1 y1 => y1 = x ∧ (r = none ∧ (Q none (hf_up ψ1 17 5 ((ψ1 17 5) + 1)) x)))) :
    hw sc (d + 1) 88 0 [(0, (2, 17))] [] φ x Q := by
  refine hw_ald (b := 0) (e := 0) (by decide +kernel) rfl (by decide) ?_
  refine hw_k (c := 0) (b := 0) (e := 1) (by decide +kernel) ?_
  refine hr_pi (b := 4) (e := 3) 17 rfl (by decide +kernel) ?_
  refine hw_ald (b := 0) (e := 0) (by decide +kernel) rfl (by decide) ?_
  refine hw_k (c := (-1 : Int)) (b := 0) (e := 1) (by decide +kernel) ?_
  refine hr_pi (b := 4) (e := 1) 17 rfl (by decide +kernel) ?_
  refine hw_ald (b := 0) (e := 0) (by decide +kernel) rfl (by decide) ?_
  refine hw_k (c := (-1 : Int)) (b := 0) (e := 1) (by decide +kernel) ?_
  refine hr_pi (b := 4) (e := 2) 17 rfl (by decide +kernel) ?_
  refine hw_ald (b := 0) (e := 0) (by decide +kernel) rfl (by decide) ?_
  refine hr_gr (w := 23) (b := 4) (e := 11) 17 rfl (by decide +kernel) ?_
  refine hw_k (c := 0) (b := 0) (e := 1) (by decide +kernel) ?_
  refine hr_calls (b := 12) (e := 2) (nl := 4) (As := [(2, 23), (0, 0)]) (R := []) (by decide +kernel) rfl rfl (Nat.le_of_ble_eq_true rfl) (Nat.le_of_ble_eq_true rfl) ?_
  refine hw_mono H ?_
  rintro r ψ1 y1 ⟨hyx, hr, H⟩
  subst hyx
  subst hr
  refine ⟨hnen, ?_⟩
  show hw sc (d + 1) 88 23 [(0, (2, 17))] [] ψ1 y1 Q
  refine hw_ald (b := 0) (e := 0) (by decide +kernel) rfl (by decide) ?_
  refine hw_dup (a0 := 0) (e := 0) (by decide +kernel) (by decide) ?_
  refine hr_gi (w := ψ1 17 5) (b := 4) (e := 5) 17 rfl (by decide +kernel) rfl ?_
  refine hw_k (c := 1) (b := 0) (e := 1) (by decide +kernel) ?_
  refine hw_bin (w := (ψ1 17 5) + 1) (a0 := 0) (b := 0) (e := 0) (by decide +kernel) rfl ?_
  refine hr_pi (b := 4) (e := 5) 17 rfl (by decide +kernel) ?_
  exact hw_vret (a0 := 0) (e := 0) (by decide +kernel) H
theorem sf_88_17 {sc : List Int} {d : Nat} {φ : hf_F} {x : Nat} {Q : Option jm_V → hf_F → Nat → Prop}  (hI : Inv φ)  (hQ : ∀ ψ : hf_F, Inv ψ → Fr [17, 23] φ ψ → Q none ψ x) : hw sc (d + 1) 88 0 [(0, (2, 17))] [] φ x Q := by
  apply sf_88_17_v
  have i1 : Inv (hf_up φ 17 3 0) := iv_up (lo := (-2147483648 : Int)) (u := 2147483647) hI (by decide +kernel) (by omega) (by omega)
  have r1 : Fr [17, 23] φ (hf_up φ 17 3 0) := fr_up (fr_rf) (by decide)
  have i2 : Inv (hf_up (hf_up φ 17 3 0) 17 1 (-1 : Int)) := iv_up (lo := (-1 : Int)) (u := 7) i1 (by decide +kernel) (by omega) (by omega)
  have r2 : Fr [17, 23] φ (hf_up (hf_up φ 17 3 0) 17 1 (-1 : Int)) := fr_up r1 (by decide)
  have i3 : Inv (hf_up (hf_up (hf_up φ 17 3 0) 17 1 (-1 : Int)) 17 2 (-1 : Int)) := iv_up (lo := (-1 : Int)) (u := 5) i2 (by decide +kernel) (by omega) (by omega)
  have r3 : Fr [17, 23] φ (hf_up (hf_up (hf_up φ 17 3 0) 17 1 (-1 : Int)) 17 2 (-1 : Int)) := fr_up r2 (by decide)
  refine sf_12_23_k1_0 (φ := (hf_up (hf_up (hf_up φ 17 3 0) 17 1 (-1 : Int)) 17 2 (-1 : Int))) i3  (fun ψ1 hI1 hF1 => ⟨rfl, rfl, ?_⟩)
  have hG1 : Fr [17, 23] φ ψ1 := fr_tr r3 hF1 (by decide)
  have f4 : ψ1 17 5 = φ 17 5 := (hF1 17 (by decide) 5).trans ((hf_up_ne (fun q => absurd q.2 (by decide))).trans ((hf_up_ne (fun q => absurd q.2 (by decide))).trans (hf_up_ne (fun q => absurd q.2 (by decide)))))
  have i5 : Inv (hf_up ψ1 17 5 ((ψ1 17 5) + 1)) := iv_upn hI1 (by decide) (by decide +kernel)
  have r5 : Fr [17, 23] φ (hf_up ψ1 17 5 ((ψ1 17 5) + 1)) := fr_up hG1 (by decide)
  exact hQ (hf_up ψ1 17 5 ((ψ1 17 5) + 1)) i5 r5
theorem sf_93_17_5_v {sc : List Int} {d : Nat} {φ : hf_F} {x : Nat} {Q : Option jm_V → hf_F → Nat → Prop} {v2 : Int}
    (H : 0 ≤ v2 ∧ v2 < 6 ∧ (hw sc d 71 0 [(0, (2, 17)), (1, (0, v2)), (2, (0, φ 23 ((v2).toNat)))] [] φ x (fun r ψ2 y2 => y2 = x ∧ (∃ z2 : Int, r = some (0, z2) ∧ (0 ≤ v2 ∧ v2 < 6 ∧ (0 ≤ v2 ∧ v2 < 6 ∧ (hi ((ψ2 23 ((v2).toNat)) + 1) ∧ hi (ψ2 21 ((v2).toNat)) ∧ ((ψ2 21 ((v2).toNat)) ≤ ((ψ2 23 ((v2).toNat)) + 1) → 0 ≤ v2 ∧ v2 < 6 ∧ (0 ≤ v2 ∧ v2 < 6 ∧ (0 ≤ v2 ∧ v2 < 6 ∧ (hi (ψ2 17 1) ∧ hi (-1 : Int) ∧ (¬ (ψ2 17 1) = (-1 : Int) → 0 ≤ (((ψ2 17 1) * 8) + z2) ∧ (((ψ2 17 1) * 8) + z2) < 64 ∧ (hi (ψ2 16 ((((ψ2 17 1) * 8) + z2).toNat)) ∧ hi (-1 : Int) ∧ ((ψ2 16 ((((ψ2 17 1) * 8) + z2).toNat)) = (-1 : Int) → Q none (hf_up (hf_up (hf_up (hf_up (hf_up ψ2 23 ((v2).toNat) 0) 24 ((v2).toNat) ((ψ2 24 ((v2).toNat)) + 1)) 17 4 ((ψ2 17 4) + 1)) 17 1 z2) 17 2 v2) x) ∧ (¬ (ψ2 16 ((((ψ2 17 1) * 8) + z2).toNat)) = (-1 : Int) → 0 ≤ (ψ2 16 ((((ψ2 17 1) * 8) + z2).toNat)) ∧ (ψ2 16 ((((ψ2 17 1) * 8) + z2).toNat)) < 8 ∧ (0 ≤ (ψ2 16 ((((ψ2 17 1) * 8) + z2).toNat)) ∧ (ψ2 16 ((((ψ2 17 1) * 8) + z2).toNat)) < 8 ∧ (0 ≤ (ψ2 16 ((((ψ2 17 1) * 8) + z2).toNat)) ∧ (ψ2 16 ((((ψ2 17 1) * 8) + z2).toNat)) < 8 ∧ (Q none (hf_up (hf_up (hf_up (hf_up (hf_up (hf_up (hf_up ψ2 23 ((v2).toNat) 0) 24 ((v2).toNat) ((ψ2 24 ((v2).toNat)) + 1)) 17 4 ((ψ2 17 4) + 1)) 17 3 (hb_and (hb_or (ψ2 17 3) (hb_shl 1 (ψ2 16 ((((ψ2 17 1) * 8) + z2).toNat)))) (hb_xor (ψ2 15 ((ψ2 16 ((((ψ2 17 1) * 8) + z2).toNat)).toNat)) (-1 : Int)))) 25 ((ψ2 16 ((((ψ2 17 1) * 8) + z2).toNat)).toNat) ((ψ2 25 ((ψ2 16 ((((ψ2 17 1) * 8) + z2).toNat)).toNat)) + 1)) 17 1 z2) 17 2 v2) x)))))) ∧ (¬ (¬ (ψ2 17 1) = (-1 : Int)) → Q none (hf_up (hf_up (hf_up (hf_up (hf_up ψ2 23 ((v2).toNat) 0) 24 ((v2).toNat) ((ψ2 24 ((v2).toNat)) + 1)) 17 4 ((ψ2 17 4) + 1)) 17 1 z2) 17 2 v2) x))))) ∧ (¬ (ψ2 21 ((v2).toNat)) ≤ ((ψ2 23 ((v2).toNat)) + 1) → 0 ≤ v2 ∧ v2 < 6 ∧ (0 ≤ v2 ∧ v2 < 6 ∧ (0 ≤ v2 ∧ v2 < 6 ∧ (hi (ψ2 17 1) ∧ hi (-1 : Int) ∧ (¬ (ψ2 17 1) = (-1 : Int) → 0 ≤ (((ψ2 17 1) * 8) + z2) ∧ (((ψ2 17 1) * 8) + z2) < 64 ∧ (hi (ψ2 16 ((((ψ2 17 1) * 8) + z2).toNat)) ∧ hi (-1 : Int) ∧ ((ψ2 16 ((((ψ2 17 1) * 8) + z2).toNat)) = (-1 : Int) → Q none (hf_up (hf_up (hf_up (hf_up (hf_up ψ2 23 ((v2).toNat) ((ψ2 23 ((v2).toNat)) + 1)) 24 ((v2).toNat) ((ψ2 24 ((v2).toNat)) + 1)) 17 4 ((ψ2 17 4) + 1)) 17 1 z2) 17 2 v2) x) ∧ (¬ (ψ2 16 ((((ψ2 17 1) * 8) + z2).toNat)) = (-1 : Int) → 0 ≤ (ψ2 16 ((((ψ2 17 1) * 8) + z2).toNat)) ∧ (ψ2 16 ((((ψ2 17 1) * 8) + z2).toNat)) < 8 ∧ (0 ≤ (ψ2 16 ((((ψ2 17 1) * 8) + z2).toNat)) ∧ (ψ2 16 ((((ψ2 17 1) * 8) + z2).toNat)) < 8 ∧ (0 ≤ (ψ2 16 ((((ψ2 17 1) * 8) + z2).toNat)) ∧ (ψ2 16 ((((ψ2 17 1) * 8) + z2).toNat)) < 8 ∧ (Q none (hf_up (hf_up (hf_up (hf_up (hf_up (hf_up (hf_up ψ2 23 ((v2).toNat) ((ψ2 23 ((v2).toNat)) + 1)) 24 ((v2).toNat) ((ψ2 24 ((v2).toNat)) + 1)) 17 4 ((ψ2 17 4) + 1)) 17 3 (hb_and (hb_or (ψ2 17 3) (hb_shl 1 (ψ2 16 ((((ψ2 17 1) * 8) + z2).toNat)))) (hb_xor (ψ2 15 ((ψ2 16 ((((ψ2 17 1) * 8) + z2).toNat)).toNat)) (-1 : Int)))) 25 ((ψ2 16 ((((ψ2 17 1) * 8) + z2).toNat)).toNat) ((ψ2 25 ((ψ2 16 ((((ψ2 17 1) * 8) + z2).toNat)).toNat)) + 1)) 17 1 z2) 17 2 v2) x)))))) ∧ (¬ (¬ (ψ2 17 1) = (-1 : Int)) → Q none (hf_up (hf_up (hf_up (hf_up (hf_up ψ2 23 ((v2).toNat) ((ψ2 23 ((v2).toNat)) + 1)) 24 ((v2).toNat) ((ψ2 24 ((v2).toNat)) + 1)) 17 4 ((ψ2 17 4) + 1)) 17 1 z2) 17 2 v2) x)))))))))))) :
    hw sc (d + 1) 93 0 [(0, (2, 17)), (1, (2, 5)), (2, (0, v2))] [] φ x Q := by
  refine hw_ald (b := 0) (e := 0) (by decide +kernel) rfl (by decide) ?_
  refine hw_ld (b := 2) (e := 0) (by decide +kernel) rfl ?_
  refine hw_ald (b := 0) (e := 0) (by decide +kernel) rfl (by decide) ?_
  refine hr_gr (w := 23) (b := 4) (e := 11) 17 rfl (by decide +kernel) ?_
  refine hw_ld (b := 2) (e := 0) (by decide +kernel) rfl ?_
  obtain ⟨hl1, hu1, H⟩ := H
  refine hr_al (b := 0) (a0 := 0) (e := 0) (n := 6) (w := φ 23 ((v2).toNat)) 23 rfl (by decide +kernel) (by decide) hl1 hu1 rfl ?_
  refine hr_call (a0 := 14) (b := 71) (e := 3) (nl := 3) (As := [(0, v2), (0, φ 23 ((v2).toNat))]) (R := []) 17 rfl (by decide +kernel) rfl rfl (Nat.le_of_ble_eq_true rfl) (Nat.le_of_ble_eq_true rfl) ?_
  refine hw_mono H ?_
  rintro r ψ2 y2 ⟨hyx, z2, hr, H⟩
  subst hyx
  subst hr
  refine ⟨hne0, ?_⟩
  show hw sc (d + 1) 93 11 [(0, (2, 17)), (1, (2, 5)), (2, (0, v2))] [(0, z2)] ψ2 y2 Q
  refine hw_st (L' := (jm_st1 [(0, (2, 17)), (1, (2, 5)), (2, (0, v2))] 3 (0, z2))) (b := 3) (e := 0) (by decide +kernel) rfl ?_
  refine hw_ald (b := 0) (e := 0) (by decide +kernel) (get_st1 rfl (by decide) (fun q => absurd q.1 (by decide))) (by decide) ?_
  refine hr_gr (w := 23) (b := 4) (e := 11) 17 rfl (by decide +kernel) ?_
  refine hw_ld (b := 2) (e := 0) (by decide +kernel) (get_st1 rfl (by decide) (fun q => tg0 q.2)) ?_
  obtain ⟨hl3, hu3, H⟩ := H
  refine hr_al (b := 0) (a0 := 0) (e := 0) (n := 6) (w := ψ2 23 ((v2).toNat)) 23 rfl (by decide +kernel) (by decide) hl3 hu3 rfl ?_
  refine hw_k (c := 1) (b := 0) (e := 1) (by decide +kernel) ?_
  refine hw_bin (w := (ψ2 23 ((v2).toNat)) + 1) (a0 := 0) (b := 0) (e := 0) (by decide +kernel) rfl ?_
  refine hw_st (L' := (jm_st1 (jm_st1 [(0, (2, 17)), (1, (2, 5)), (2, (0, v2))] 3 (0, z2)) 4 (0, (ψ2 23 ((v2).toNat)) + 1))) (b := 4) (e := 1) (by decide +kernel) rfl ?_
  refine hw_ald (b := 0) (e := 0) (by decide +kernel) (get_st1 (get_st1 rfl (by decide) (fun q => absurd q.1 (by decide))) (by decide) (fun q => absurd q.1 (by decide))) (by decide) ?_
  refine hr_gr (w := 23) (b := 4) (e := 11) 17 rfl (by decide +kernel) ?_
  refine hw_ld (b := 2) (e := 0) (by decide +kernel) (get_st1 (get_st1 rfl (by decide) (fun q => tg0 q.2)) (by decide) (fun q => absurd q.1 (by decide))) ?_
  refine hw_ld (b := 4) (e := 1) (by decide +kernel) get_st1e ?_
  refine hw_ald (b := 0) (e := 0) (by decide +kernel) (get_st1 (get_st1 rfl (by decide) (fun q => absurd q.1 (by decide))) (by decide) (fun q => absurd q.1 (by decide))) (by decide) ?_
  refine hr_gr (w := 21) (b := 4) (e := 9) 17 rfl (by decide +kernel) ?_
  refine hw_ld (b := 2) (e := 0) (by decide +kernel) (get_st1 (get_st1 rfl (by decide) (fun q => tg0 q.2)) (by decide) (fun q => absurd q.1 (by decide))) ?_
  obtain ⟨hl4, hu4, H⟩ := H
  refine hr_al (b := 0) (a0 := 0) (e := 0) (n := 6) (w := ψ2 21 ((v2).toNat)) 21 rfl (by decide +kernel) (by decide) hl4 hu4 rfl ?_
  obtain ⟨hz5, hy5, ht5, hf5⟩ := H
  refine hw_if2 (a0 := 0) (b := 3) (e := 43) (by decide +kernel) hz5 hy5 (fun q => ?_) (fun q => ?_)
  · have H := ht5 q
    refine hw_k (c := 0) (b := 0) (e := 1) (by decide +kernel) ?_
    obtain ⟨hl6, hu6, H⟩ := H
    refine hr_as (a0 := 0) (e := 4) (n := 6) 23 rfl (by decide +kernel) hl6 hu6 ?_
    refine hw_ald (b := 0) (e := 0) (by decide +kernel) (get_st1 (get_st1 rfl (by decide) (fun q => absurd q.1 (by decide))) (by decide) (fun q => absurd q.1 (by decide))) (by decide) ?_
    refine hr_gr (w := 24) (b := 4) (e := 12) 17 rfl (by decide +kernel) ?_
    refine hw_ld (b := 2) (e := 0) (by decide +kernel) (get_st1 (get_st1 rfl (by decide) (fun q => tg0 q.2)) (by decide) (fun q => absurd q.1 (by decide))) ?_
    refine hw_dup2 (a0 := 0) (e := 0) (by decide +kernel) (by decide) (by decide) ?_
    obtain ⟨hl7, hu7, H⟩ := H
    refine hr_al (b := 0) (a0 := 0) (e := 0) (n := 6) (w := ψ2 24 ((v2).toNat)) 24 rfl (by decide +kernel) (by decide) hl7 hu7 (hf_up_ne (fun q => absurd q.1 (by decide))) ?_
    refine hw_k (c := 1) (b := 0) (e := 1) (by decide +kernel) ?_
    refine hw_bin (w := (ψ2 24 ((v2).toNat)) + 1) (a0 := 0) (b := 0) (e := 0) (by decide +kernel) rfl ?_
    obtain ⟨hl8, hu8, H⟩ := H
    refine hr_as (a0 := 0) (e := 4) (n := 6) 24 rfl (by decide +kernel) hl8 hu8 ?_
    refine hw_ald (b := 0) (e := 0) (by decide +kernel) (get_st1 (get_st1 rfl (by decide) (fun q => absurd q.1 (by decide))) (by decide) (fun q => absurd q.1 (by decide))) (by decide) ?_
    refine hw_dup (a0 := 0) (e := 0) (by decide +kernel) (by decide) ?_
    refine hr_gi (w := ψ2 17 4) (b := 4) (e := 4) 17 rfl (by decide +kernel) ((hf_up_ne (fun q => absurd q.1 (by decide))).trans (hf_up_ne (fun q => absurd q.1 (by decide)))) ?_
    refine hw_k (c := 1) (b := 0) (e := 1) (by decide +kernel) ?_
    refine hw_bin (w := (ψ2 17 4) + 1) (a0 := 0) (b := 0) (e := 0) (by decide +kernel) rfl ?_
    refine hr_pi (b := 4) (e := 4) 17 rfl (by decide +kernel) ?_
    refine hw_ald (b := 0) (e := 0) (by decide +kernel) (get_st1 (get_st1 rfl (by decide) (fun q => absurd q.1 (by decide))) (by decide) (fun q => absurd q.1 (by decide))) (by decide) ?_
    refine hr_gi (w := ψ2 17 1) (b := 4) (e := 1) 17 rfl (by decide +kernel) ((hf_up_ne (fun q => absurd q.2 (by decide))).trans ((hf_up_ne (fun q => absurd q.1 (by decide))).trans (hf_up_ne (fun q => absurd q.1 (by decide))))) ?_
    refine hw_k (c := (-1 : Int)) (b := 0) (e := 1) (by decide +kernel) ?_
    obtain ⟨hz9, hy9, ht9, hf9⟩ := H
    refine hw_if2 (a0 := 0) (b := 1) (e := 77) (by decide +kernel) hz9 hy9 (fun q => ?_) (fun q => ?_)
    · have H := ht9 q
      refine hw_ald (b := 1) (e := 0) (by decide +kernel) (get_st1 (get_st1 rfl (by decide) (fun q => absurd q.1 (by decide))) (by decide) (fun q => absurd q.1 (by decide))) (by decide) ?_
      refine hr_gr (w := 16) (b := 3) (e := 10) 5 rfl (by decide +kernel) ?_
      refine hw_ald (b := 0) (e := 0) (by decide +kernel) (get_st1 (get_st1 rfl (by decide) (fun q => absurd q.1 (by decide))) (by decide) (fun q => absurd q.1 (by decide))) (by decide) ?_
      refine hr_gi (w := ψ2 17 1) (b := 4) (e := 1) 17 rfl (by decide +kernel) ((hf_up_ne (fun q => absurd q.2 (by decide))).trans ((hf_up_ne (fun q => absurd q.1 (by decide))).trans (hf_up_ne (fun q => absurd q.1 (by decide))))) ?_
      refine hw_k (c := 8) (b := 1) (e := 2) (by decide +kernel) ?_
      refine hw_bin (w := (ψ2 17 1) * 8) (a0 := 0) (b := 2) (e := 0) (by decide +kernel) rfl ?_
      refine hw_ld (b := 3) (e := 0) (by decide +kernel) (get_st1 get_st1e (by decide) (fun q => tg0 q.2)) ?_
      refine hw_bin (w := ((ψ2 17 1) * 8) + z2) (a0 := 0) (b := 0) (e := 0) (by decide +kernel) rfl ?_
      obtain ⟨hl10, hu10, H⟩ := H
      refine hr_al (b := 0) (a0 := 0) (e := 0) (n := 64) (w := ψ2 16 ((((ψ2 17 1) * 8) + z2).toNat)) 16 rfl (by decide +kernel) (by decide) hl10 hu10 ((hf_up_ne (fun q => absurd q.1 (by decide))).trans ((hf_up_ne (fun q => absurd q.1 (by decide))).trans (hf_up_ne (fun q => absurd q.1 (by decide))))) ?_
      refine hw_st (L' := (jm_st1 (jm_st1 (jm_st1 [(0, (2, 17)), (1, (2, 5)), (2, (0, v2))] 3 (0, z2)) 4 (0, (ψ2 23 ((v2).toNat)) + 1)) 5 (0, ψ2 16 ((((ψ2 17 1) * 8) + z2).toNat)))) (b := 5) (e := 1) (by decide +kernel) rfl ?_
      refine hw_ld (b := 5) (e := 1) (by decide +kernel) get_st1e ?_
      refine hw_k (c := (-1 : Int)) (b := 0) (e := 1) (by decide +kernel) ?_
      obtain ⟨hz11, hy11, ht11, hf11⟩ := H
      refine hw_if2 (a0 := 0) (b := 0) (e := 133) (by decide +kernel) hz11 hy11 (fun q => ?_) (fun q => ?_)
      · have H := ht11 q
        refine hw_ald (b := 0) (e := 0) (by decide +kernel) (get_st1 (get_st1 (get_st1 rfl (by decide) (fun q => absurd q.1 (by decide))) (by decide) (fun q => absurd q.1 (by decide))) (by decide) (fun q => absurd q.1 (by decide))) (by decide) ?_
        refine hw_ld (b := 3) (e := 0) (by decide +kernel) (get_st1 (get_st1 get_st1e (by decide) (fun q => tg0 q.2)) (by decide) (fun q => absurd q.1 (by decide))) ?_
        refine hr_pi (b := 4) (e := 1) 17 rfl (by decide +kernel) ?_
        refine hw_ald (b := 0) (e := 0) (by decide +kernel) (get_st1 (get_st1 (get_st1 rfl (by decide) (fun q => absurd q.1 (by decide))) (by decide) (fun q => absurd q.1 (by decide))) (by decide) (fun q => absurd q.1 (by decide))) (by decide) ?_
        refine hw_ld (b := 2) (e := 0) (by decide +kernel) (get_st1 (get_st1 (get_st1 rfl (by decide) (fun q => tg0 q.2)) (by decide) (fun q => absurd q.1 (by decide))) (by decide) (fun q => absurd q.1 (by decide))) ?_
        refine hr_pi (b := 4) (e := 2) 17 rfl (by decide +kernel) ?_
        exact hw_vret (a0 := 0) (e := 0) (by decide +kernel) H
      · have H := hf11 q
        refine hw_ald (b := 0) (e := 0) (by decide +kernel) (get_st1 (get_st1 (get_st1 rfl (by decide) (fun q => absurd q.1 (by decide))) (by decide) (fun q => absurd q.1 (by decide))) (by decide) (fun q => absurd q.1 (by decide))) (by decide) ?_
        refine hw_ald (b := 0) (e := 0) (by decide +kernel) (get_st1 (get_st1 (get_st1 rfl (by decide) (fun q => absurd q.1 (by decide))) (by decide) (fun q => absurd q.1 (by decide))) (by decide) (fun q => absurd q.1 (by decide))) (by decide) ?_
        refine hr_gi (w := ψ2 17 3) (b := 4) (e := 3) 17 rfl (by decide +kernel) ((hf_up_ne (fun q => absurd q.2 (by decide))).trans ((hf_up_ne (fun q => absurd q.1 (by decide))).trans (hf_up_ne (fun q => absurd q.1 (by decide))))) ?_
        refine hw_k (c := 1) (b := 0) (e := 1) (by decide +kernel) ?_
        refine hw_ld (b := 5) (e := 1) (by decide +kernel) get_st1e ?_
        refine hw_bin (w := hb_shl 1 (ψ2 16 ((((ψ2 17 1) * 8) + z2).toNat))) (a0 := 0) (b := 6) (e := 0) (by decide +kernel) rfl ?_
        refine hw_bin (w := hb_or (ψ2 17 3) (hb_shl 1 (ψ2 16 ((((ψ2 17 1) * 8) + z2).toNat)))) (a0 := 0) (b := 4) (e := 0) (by decide +kernel) rfl ?_
        refine hw_ald (b := 1) (e := 0) (by decide +kernel) (get_st1 (get_st1 (get_st1 rfl (by decide) (fun q => absurd q.1 (by decide))) (by decide) (fun q => absurd q.1 (by decide))) (by decide) (fun q => absurd q.1 (by decide))) (by decide) ?_
        refine hr_gr (w := 15) (b := 3) (e := 9) 5 rfl (by decide +kernel) ?_
        refine hw_ld (b := 5) (e := 1) (by decide +kernel) get_st1e ?_
        obtain ⟨hl13, hu13, H⟩ := H
        refine hr_al (b := 0) (a0 := 0) (e := 0) (n := 8) (w := ψ2 15 ((ψ2 16 ((((ψ2 17 1) * 8) + z2).toNat)).toNat)) 15 rfl (by decide +kernel) (by decide) hl13 hu13 ((hf_up_ne (fun q => absurd q.1 (by decide))).trans ((hf_up_ne (fun q => absurd q.1 (by decide))).trans (hf_up_ne (fun q => absurd q.1 (by decide))))) ?_
        refine hw_k (c := (-1 : Int)) (b := 0) (e := 1) (by decide +kernel) ?_
        refine hw_bin (w := hb_xor (ψ2 15 ((ψ2 16 ((((ψ2 17 1) * 8) + z2).toNat)).toNat)) (-1 : Int)) (a0 := 0) (b := 5) (e := 0) (by decide +kernel) rfl ?_
        refine hw_bin (w := hb_and (hb_or (ψ2 17 3) (hb_shl 1 (ψ2 16 ((((ψ2 17 1) * 8) + z2).toNat)))) (hb_xor (ψ2 15 ((ψ2 16 ((((ψ2 17 1) * 8) + z2).toNat)).toNat)) (-1 : Int))) (a0 := 0) (b := 3) (e := 0) (by decide +kernel) rfl ?_
        refine hr_pi (b := 4) (e := 3) 17 rfl (by decide +kernel) ?_
        refine hw_ald (b := 0) (e := 0) (by decide +kernel) (get_st1 (get_st1 (get_st1 rfl (by decide) (fun q => absurd q.1 (by decide))) (by decide) (fun q => absurd q.1 (by decide))) (by decide) (fun q => absurd q.1 (by decide))) (by decide) ?_
        refine hr_gr (w := 25) (b := 4) (e := 13) 17 rfl (by decide +kernel) ?_
        refine hw_ld (b := 5) (e := 1) (by decide +kernel) get_st1e ?_
        refine hw_dup2 (a0 := 0) (e := 0) (by decide +kernel) (by decide) (by decide) ?_
        obtain ⟨hl14, hu14, H⟩ := H
        refine hr_al (b := 0) (a0 := 0) (e := 0) (n := 8) (w := ψ2 25 ((ψ2 16 ((((ψ2 17 1) * 8) + z2).toNat)).toNat)) 25 rfl (by decide +kernel) (by decide) hl14 hu14 ((hf_up_ne (fun q => absurd q.1 (by decide))).trans ((hf_up_ne (fun q => absurd q.1 (by decide))).trans ((hf_up_ne (fun q => absurd q.1 (by decide))).trans (hf_up_ne (fun q => absurd q.1 (by decide)))))) ?_
        refine hw_k (c := 1) (b := 0) (e := 1) (by decide +kernel) ?_
        refine hw_bin (w := (ψ2 25 ((ψ2 16 ((((ψ2 17 1) * 8) + z2).toNat)).toNat)) + 1) (a0 := 0) (b := 0) (e := 0) (by decide +kernel) rfl ?_
        obtain ⟨hl15, hu15, H⟩ := H
        refine hr_as (a0 := 0) (e := 4) (n := 8) 25 rfl (by decide +kernel) hl15 hu15 ?_
        refine hw_ald (b := 0) (e := 0) (by decide +kernel) (get_st1 (get_st1 (get_st1 rfl (by decide) (fun q => absurd q.1 (by decide))) (by decide) (fun q => absurd q.1 (by decide))) (by decide) (fun q => absurd q.1 (by decide))) (by decide) ?_
        refine hw_ld (b := 3) (e := 0) (by decide +kernel) (get_st1 (get_st1 get_st1e (by decide) (fun q => tg0 q.2)) (by decide) (fun q => absurd q.1 (by decide))) ?_
        refine hr_pi (b := 4) (e := 1) 17 rfl (by decide +kernel) ?_
        refine hw_ald (b := 0) (e := 0) (by decide +kernel) (get_st1 (get_st1 (get_st1 rfl (by decide) (fun q => absurd q.1 (by decide))) (by decide) (fun q => absurd q.1 (by decide))) (by decide) (fun q => absurd q.1 (by decide))) (by decide) ?_
        refine hw_ld (b := 2) (e := 0) (by decide +kernel) (get_st1 (get_st1 (get_st1 rfl (by decide) (fun q => tg0 q.2)) (by decide) (fun q => absurd q.1 (by decide))) (by decide) (fun q => absurd q.1 (by decide))) ?_
        refine hr_pi (b := 4) (e := 2) 17 rfl (by decide +kernel) ?_
        exact hw_vret (a0 := 0) (e := 0) (by decide +kernel) H
    · have H := hf9 q
      refine hw_k (c := (-1 : Int)) (b := 0) (e := 1) (by decide +kernel) ?_
      refine hw_goto (a0 := 0) (b := 0) (e := 91) (by decide +kernel) ?_
      refine hw_st (L' := (jm_st1 (jm_st1 (jm_st1 [(0, (2, 17)), (1, (2, 5)), (2, (0, v2))] 3 (0, z2)) 4 (0, (ψ2 23 ((v2).toNat)) + 1)) 5 (0, (-1 : Int)))) (b := 5) (e := 1) (by decide +kernel) rfl ?_
      refine hw_ld (b := 5) (e := 1) (by decide +kernel) get_st1e ?_
      refine hw_k (c := (-1 : Int)) (b := 0) (e := 1) (by decide +kernel) ?_
      refine hw_if2 (a0 := 0) (b := 0) (e := 133) (by decide +kernel) (by unfold hi; omega) (by unfold hi; omega) (fun _ => ?_) (fun q => absurd (show (-1 : Int) = (-1 : Int) by decide) q)
      refine hw_ald (b := 0) (e := 0) (by decide +kernel) (get_st1 (get_st1 (get_st1 rfl (by decide) (fun q => absurd q.1 (by decide))) (by decide) (fun q => absurd q.1 (by decide))) (by decide) (fun q => absurd q.1 (by decide))) (by decide) ?_
      refine hw_ld (b := 3) (e := 0) (by decide +kernel) (get_st1 (get_st1 get_st1e (by decide) (fun q => tg0 q.2)) (by decide) (fun q => absurd q.1 (by decide))) ?_
      refine hr_pi (b := 4) (e := 1) 17 rfl (by decide +kernel) ?_
      refine hw_ald (b := 0) (e := 0) (by decide +kernel) (get_st1 (get_st1 (get_st1 rfl (by decide) (fun q => absurd q.1 (by decide))) (by decide) (fun q => absurd q.1 (by decide))) (by decide) (fun q => absurd q.1 (by decide))) (by decide) ?_
      refine hw_ld (b := 2) (e := 0) (by decide +kernel) (get_st1 (get_st1 (get_st1 rfl (by decide) (fun q => tg0 q.2)) (by decide) (fun q => absurd q.1 (by decide))) (by decide) (fun q => absurd q.1 (by decide))) ?_
      refine hr_pi (b := 4) (e := 2) 17 rfl (by decide +kernel) ?_
      exact hw_vret (a0 := 0) (e := 0) (by decide +kernel) H
  · have H := hf5 q
    refine hw_ld (b := 4) (e := 1) (by decide +kernel) get_st1e ?_
    refine hw_goto (a0 := 0) (b := 0) (e := 44) (by decide +kernel) ?_
    obtain ⟨hl19, hu19, H⟩ := H
    refine hr_as (a0 := 0) (e := 4) (n := 6) 23 rfl (by decide +kernel) hl19 hu19 ?_
    refine hw_ald (b := 0) (e := 0) (by decide +kernel) (get_st1 (get_st1 rfl (by decide) (fun q => absurd q.1 (by decide))) (by decide) (fun q => absurd q.1 (by decide))) (by decide) ?_
    refine hr_gr (w := 24) (b := 4) (e := 12) 17 rfl (by decide +kernel) ?_
    refine hw_ld (b := 2) (e := 0) (by decide +kernel) (get_st1 (get_st1 rfl (by decide) (fun q => tg0 q.2)) (by decide) (fun q => absurd q.1 (by decide))) ?_
    refine hw_dup2 (a0 := 0) (e := 0) (by decide +kernel) (by decide) (by decide) ?_
    obtain ⟨hl20, hu20, H⟩ := H
    refine hr_al (b := 0) (a0 := 0) (e := 0) (n := 6) (w := ψ2 24 ((v2).toNat)) 24 rfl (by decide +kernel) (by decide) hl20 hu20 (hf_up_ne (fun q => absurd q.1 (by decide))) ?_
    refine hw_k (c := 1) (b := 0) (e := 1) (by decide +kernel) ?_
    refine hw_bin (w := (ψ2 24 ((v2).toNat)) + 1) (a0 := 0) (b := 0) (e := 0) (by decide +kernel) rfl ?_
    obtain ⟨hl21, hu21, H⟩ := H
    refine hr_as (a0 := 0) (e := 4) (n := 6) 24 rfl (by decide +kernel) hl21 hu21 ?_
    refine hw_ald (b := 0) (e := 0) (by decide +kernel) (get_st1 (get_st1 rfl (by decide) (fun q => absurd q.1 (by decide))) (by decide) (fun q => absurd q.1 (by decide))) (by decide) ?_
    refine hw_dup (a0 := 0) (e := 0) (by decide +kernel) (by decide) ?_
    refine hr_gi (w := ψ2 17 4) (b := 4) (e := 4) 17 rfl (by decide +kernel) ((hf_up_ne (fun q => absurd q.1 (by decide))).trans (hf_up_ne (fun q => absurd q.1 (by decide)))) ?_
    refine hw_k (c := 1) (b := 0) (e := 1) (by decide +kernel) ?_
    refine hw_bin (w := (ψ2 17 4) + 1) (a0 := 0) (b := 0) (e := 0) (by decide +kernel) rfl ?_
    refine hr_pi (b := 4) (e := 4) 17 rfl (by decide +kernel) ?_
    refine hw_ald (b := 0) (e := 0) (by decide +kernel) (get_st1 (get_st1 rfl (by decide) (fun q => absurd q.1 (by decide))) (by decide) (fun q => absurd q.1 (by decide))) (by decide) ?_
    refine hr_gi (w := ψ2 17 1) (b := 4) (e := 1) 17 rfl (by decide +kernel) ((hf_up_ne (fun q => absurd q.2 (by decide))).trans ((hf_up_ne (fun q => absurd q.1 (by decide))).trans (hf_up_ne (fun q => absurd q.1 (by decide))))) ?_
    refine hw_k (c := (-1 : Int)) (b := 0) (e := 1) (by decide +kernel) ?_
    obtain ⟨hz22, hy22, ht22, hf22⟩ := H
    refine hw_if2 (a0 := 0) (b := 1) (e := 77) (by decide +kernel) hz22 hy22 (fun q => ?_) (fun q => ?_)
    · have H := ht22 q
      refine hw_ald (b := 1) (e := 0) (by decide +kernel) (get_st1 (get_st1 rfl (by decide) (fun q => absurd q.1 (by decide))) (by decide) (fun q => absurd q.1 (by decide))) (by decide) ?_
      refine hr_gr (w := 16) (b := 3) (e := 10) 5 rfl (by decide +kernel) ?_
      refine hw_ald (b := 0) (e := 0) (by decide +kernel) (get_st1 (get_st1 rfl (by decide) (fun q => absurd q.1 (by decide))) (by decide) (fun q => absurd q.1 (by decide))) (by decide) ?_
      refine hr_gi (w := ψ2 17 1) (b := 4) (e := 1) 17 rfl (by decide +kernel) ((hf_up_ne (fun q => absurd q.2 (by decide))).trans ((hf_up_ne (fun q => absurd q.1 (by decide))).trans (hf_up_ne (fun q => absurd q.1 (by decide))))) ?_
      refine hw_k (c := 8) (b := 1) (e := 2) (by decide +kernel) ?_
      refine hw_bin (w := (ψ2 17 1) * 8) (a0 := 0) (b := 2) (e := 0) (by decide +kernel) rfl ?_
      refine hw_ld (b := 3) (e := 0) (by decide +kernel) (get_st1 get_st1e (by decide) (fun q => tg0 q.2)) ?_
      refine hw_bin (w := ((ψ2 17 1) * 8) + z2) (a0 := 0) (b := 0) (e := 0) (by decide +kernel) rfl ?_
      obtain ⟨hl23, hu23, H⟩ := H
      refine hr_al (b := 0) (a0 := 0) (e := 0) (n := 64) (w := ψ2 16 ((((ψ2 17 1) * 8) + z2).toNat)) 16 rfl (by decide +kernel) (by decide) hl23 hu23 ((hf_up_ne (fun q => absurd q.1 (by decide))).trans ((hf_up_ne (fun q => absurd q.1 (by decide))).trans (hf_up_ne (fun q => absurd q.1 (by decide))))) ?_
      refine hw_st (L' := (jm_st1 (jm_st1 (jm_st1 [(0, (2, 17)), (1, (2, 5)), (2, (0, v2))] 3 (0, z2)) 4 (0, (ψ2 23 ((v2).toNat)) + 1)) 5 (0, ψ2 16 ((((ψ2 17 1) * 8) + z2).toNat)))) (b := 5) (e := 1) (by decide +kernel) rfl ?_
      refine hw_ld (b := 5) (e := 1) (by decide +kernel) get_st1e ?_
      refine hw_k (c := (-1 : Int)) (b := 0) (e := 1) (by decide +kernel) ?_
      obtain ⟨hz24, hy24, ht24, hf24⟩ := H
      refine hw_if2 (a0 := 0) (b := 0) (e := 133) (by decide +kernel) hz24 hy24 (fun q => ?_) (fun q => ?_)
      · have H := ht24 q
        refine hw_ald (b := 0) (e := 0) (by decide +kernel) (get_st1 (get_st1 (get_st1 rfl (by decide) (fun q => absurd q.1 (by decide))) (by decide) (fun q => absurd q.1 (by decide))) (by decide) (fun q => absurd q.1 (by decide))) (by decide) ?_
        refine hw_ld (b := 3) (e := 0) (by decide +kernel) (get_st1 (get_st1 get_st1e (by decide) (fun q => tg0 q.2)) (by decide) (fun q => absurd q.1 (by decide))) ?_
        refine hr_pi (b := 4) (e := 1) 17 rfl (by decide +kernel) ?_
        refine hw_ald (b := 0) (e := 0) (by decide +kernel) (get_st1 (get_st1 (get_st1 rfl (by decide) (fun q => absurd q.1 (by decide))) (by decide) (fun q => absurd q.1 (by decide))) (by decide) (fun q => absurd q.1 (by decide))) (by decide) ?_
        refine hw_ld (b := 2) (e := 0) (by decide +kernel) (get_st1 (get_st1 (get_st1 rfl (by decide) (fun q => tg0 q.2)) (by decide) (fun q => absurd q.1 (by decide))) (by decide) (fun q => absurd q.1 (by decide))) ?_
        refine hr_pi (b := 4) (e := 2) 17 rfl (by decide +kernel) ?_
        exact hw_vret (a0 := 0) (e := 0) (by decide +kernel) H
      · have H := hf24 q
        refine hw_ald (b := 0) (e := 0) (by decide +kernel) (get_st1 (get_st1 (get_st1 rfl (by decide) (fun q => absurd q.1 (by decide))) (by decide) (fun q => absurd q.1 (by decide))) (by decide) (fun q => absurd q.1 (by decide))) (by decide) ?_
        refine hw_ald (b := 0) (e := 0) (by decide +kernel) (get_st1 (get_st1 (get_st1 rfl (by decide) (fun q => absurd q.1 (by decide))) (by decide) (fun q => absurd q.1 (by decide))) (by decide) (fun q => absurd q.1 (by decide))) (by decide) ?_
        refine hr_gi (w := ψ2 17 3) (b := 4) (e := 3) 17 rfl (by decide +kernel) ((hf_up_ne (fun q => absurd q.2 (by decide))).trans ((hf_up_ne (fun q => absurd q.1 (by decide))).trans (hf_up_ne (fun q => absurd q.1 (by decide))))) ?_
        refine hw_k (c := 1) (b := 0) (e := 1) (by decide +kernel) ?_
        refine hw_ld (b := 5) (e := 1) (by decide +kernel) get_st1e ?_
        refine hw_bin (w := hb_shl 1 (ψ2 16 ((((ψ2 17 1) * 8) + z2).toNat))) (a0 := 0) (b := 6) (e := 0) (by decide +kernel) rfl ?_
        refine hw_bin (w := hb_or (ψ2 17 3) (hb_shl 1 (ψ2 16 ((((ψ2 17 1) * 8) + z2).toNat)))) (a0 := 0) (b := 4) (e := 0) (by decide +kernel) rfl ?_
        refine hw_ald (b := 1) (e := 0) (by decide +kernel) (get_st1 (get_st1 (get_st1 rfl (by decide) (fun q => absurd q.1 (by decide))) (by decide) (fun q => absurd q.1 (by decide))) (by decide) (fun q => absurd q.1 (by decide))) (by decide) ?_
        refine hr_gr (w := 15) (b := 3) (e := 9) 5 rfl (by decide +kernel) ?_
        refine hw_ld (b := 5) (e := 1) (by decide +kernel) get_st1e ?_
        obtain ⟨hl26, hu26, H⟩ := H
        refine hr_al (b := 0) (a0 := 0) (e := 0) (n := 8) (w := ψ2 15 ((ψ2 16 ((((ψ2 17 1) * 8) + z2).toNat)).toNat)) 15 rfl (by decide +kernel) (by decide) hl26 hu26 ((hf_up_ne (fun q => absurd q.1 (by decide))).trans ((hf_up_ne (fun q => absurd q.1 (by decide))).trans (hf_up_ne (fun q => absurd q.1 (by decide))))) ?_
        refine hw_k (c := (-1 : Int)) (b := 0) (e := 1) (by decide +kernel) ?_
        refine hw_bin (w := hb_xor (ψ2 15 ((ψ2 16 ((((ψ2 17 1) * 8) + z2).toNat)).toNat)) (-1 : Int)) (a0 := 0) (b := 5) (e := 0) (by decide +kernel) rfl ?_
        refine hw_bin (w := hb_and (hb_or (ψ2 17 3) (hb_shl 1 (ψ2 16 ((((ψ2 17 1) * 8) + z2).toNat)))) (hb_xor (ψ2 15 ((ψ2 16 ((((ψ2 17 1) * 8) + z2).toNat)).toNat)) (-1 : Int))) (a0 := 0) (b := 3) (e := 0) (by decide +kernel) rfl ?_
        refine hr_pi (b := 4) (e := 3) 17 rfl (by decide +kernel) ?_
        refine hw_ald (b := 0) (e := 0) (by decide +kernel) (get_st1 (get_st1 (get_st1 rfl (by decide) (fun q => absurd q.1 (by decide))) (by decide) (fun q => absurd q.1 (by decide))) (by decide) (fun q => absurd q.1 (by decide))) (by decide) ?_
        refine hr_gr (w := 25) (b := 4) (e := 13) 17 rfl (by decide +kernel) ?_
        refine hw_ld (b := 5) (e := 1) (by decide +kernel) get_st1e ?_
        refine hw_dup2 (a0 := 0) (e := 0) (by decide +kernel) (by decide) (by decide) ?_
        obtain ⟨hl27, hu27, H⟩ := H
        refine hr_al (b := 0) (a0 := 0) (e := 0) (n := 8) (w := ψ2 25 ((ψ2 16 ((((ψ2 17 1) * 8) + z2).toNat)).toNat)) 25 rfl (by decide +kernel) (by decide) hl27 hu27 ((hf_up_ne (fun q => absurd q.1 (by decide))).trans ((hf_up_ne (fun q => absurd q.1 (by decide))).trans ((hf_up_ne (fun q => absurd q.1 (by decide))).trans (hf_up_ne (fun q => absurd q.1 (by decide)))))) ?_
        refine hw_k (c := 1) (b := 0) (e := 1) (by decide +kernel) ?_
        refine hw_bin (w := (ψ2 25 ((ψ2 16 ((((ψ2 17 1) * 8) + z2).toNat)).toNat)) + 1) (a0 := 0) (b := 0) (e := 0) (by decide +kernel) rfl ?_
        obtain ⟨hl28, hu28, H⟩ := H
        refine hr_as (a0 := 0) (e := 4) (n := 8) 25 rfl (by decide +kernel) hl28 hu28 ?_
        refine hw_ald (b := 0) (e := 0) (by decide +kernel) (get_st1 (get_st1 (get_st1 rfl (by decide) (fun q => absurd q.1 (by decide))) (by decide) (fun q => absurd q.1 (by decide))) (by decide) (fun q => absurd q.1 (by decide))) (by decide) ?_
        refine hw_ld (b := 3) (e := 0) (by decide +kernel) (get_st1 (get_st1 get_st1e (by decide) (fun q => tg0 q.2)) (by decide) (fun q => absurd q.1 (by decide))) ?_
        refine hr_pi (b := 4) (e := 1) 17 rfl (by decide +kernel) ?_
        refine hw_ald (b := 0) (e := 0) (by decide +kernel) (get_st1 (get_st1 (get_st1 rfl (by decide) (fun q => absurd q.1 (by decide))) (by decide) (fun q => absurd q.1 (by decide))) (by decide) (fun q => absurd q.1 (by decide))) (by decide) ?_
        refine hw_ld (b := 2) (e := 0) (by decide +kernel) (get_st1 (get_st1 (get_st1 rfl (by decide) (fun q => tg0 q.2)) (by decide) (fun q => absurd q.1 (by decide))) (by decide) (fun q => absurd q.1 (by decide))) ?_
        refine hr_pi (b := 4) (e := 2) 17 rfl (by decide +kernel) ?_
        exact hw_vret (a0 := 0) (e := 0) (by decide +kernel) H
    · have H := hf22 q
      refine hw_k (c := (-1 : Int)) (b := 0) (e := 1) (by decide +kernel) ?_
      refine hw_goto (a0 := 0) (b := 0) (e := 91) (by decide +kernel) ?_
      refine hw_st (L' := (jm_st1 (jm_st1 (jm_st1 [(0, (2, 17)), (1, (2, 5)), (2, (0, v2))] 3 (0, z2)) 4 (0, (ψ2 23 ((v2).toNat)) + 1)) 5 (0, (-1 : Int)))) (b := 5) (e := 1) (by decide +kernel) rfl ?_
      refine hw_ld (b := 5) (e := 1) (by decide +kernel) get_st1e ?_
      refine hw_k (c := (-1 : Int)) (b := 0) (e := 1) (by decide +kernel) ?_
      refine hw_if2 (a0 := 0) (b := 0) (e := 133) (by decide +kernel) (by unfold hi; omega) (by unfold hi; omega) (fun _ => ?_) (fun q => absurd (show (-1 : Int) = (-1 : Int) by decide) q)
      refine hw_ald (b := 0) (e := 0) (by decide +kernel) (get_st1 (get_st1 (get_st1 rfl (by decide) (fun q => absurd q.1 (by decide))) (by decide) (fun q => absurd q.1 (by decide))) (by decide) (fun q => absurd q.1 (by decide))) (by decide) ?_
      refine hw_ld (b := 3) (e := 0) (by decide +kernel) (get_st1 (get_st1 get_st1e (by decide) (fun q => tg0 q.2)) (by decide) (fun q => absurd q.1 (by decide))) ?_
      refine hr_pi (b := 4) (e := 1) 17 rfl (by decide +kernel) ?_
      refine hw_ald (b := 0) (e := 0) (by decide +kernel) (get_st1 (get_st1 (get_st1 rfl (by decide) (fun q => absurd q.1 (by decide))) (by decide) (fun q => absurd q.1 (by decide))) (by decide) (fun q => absurd q.1 (by decide))) (by decide) ?_
      refine hw_ld (b := 2) (e := 0) (by decide +kernel) (get_st1 (get_st1 (get_st1 rfl (by decide) (fun q => tg0 q.2)) (by decide) (fun q => absurd q.1 (by decide))) (by decide) (fun q => absurd q.1 (by decide))) ?_
      refine hr_pi (b := 4) (e := 2) 17 rfl (by decide +kernel) ?_
      exact hw_vret (a0 := 0) (e := 0) (by decide +kernel) H
theorem sf_93_17_5 {sc : List Int} {d : Nat} {φ : hf_F} {x : Nat} {Q : Option jm_V → hf_F → Nat → Prop} {v2 : Int} (hI : Inv φ) (h2a : 0 ≤ v2) (h2b : v2 ≤ 5) (hx0 : 1 ≤ φ 21 ((v2).toNat) ∧ φ 21 ((v2).toNat) ≤ 6) (hQ : ∀ ψ : hf_F, Inv ψ → Fr [17, 23, 24, 25] φ ψ → Q none ψ x) : hw sc (d + 1) 93 0 [(0, (2, 17)), (1, (2, 5)), (2, (0, v2))] [] φ x Q := by
  apply sf_93_17_5_v
  refine ⟨by omega, by omega, ?_⟩
  have f1 := iv_ar (a := 23) (s := 0) (t := 6) (lo := 0) (u := 5) (z := v2) hI (by decide +kernel) (by omega) (by omega)
  refine sf_71_17 (φ := φ) hI (by omega) (by omega) (by omega) (by omega) (fun z2 ψ2 hI2 hF2 hp2 => ⟨rfl, z2, rfl, ?_⟩)
  have hG2 : Fr [17, 23, 24, 25] φ ψ2 := fr_tr (fr_rf) hF2 (by decide)
  refine ⟨by omega, by omega, ?_⟩
  have f2 := iv_ar (a := 23) (s := 0) (t := 6) (lo := 0) (u := 5) (z := v2) hI2 (by decide +kernel) (by omega) (by omega)
  have f3 : ψ2 23 ((v2).toNat) = φ 23 ((v2).toNat) := (hF2 23 (by decide) ((v2).toNat))
  refine ⟨by omega, by omega, ?_⟩
  have f4 := iv_ar (a := 21) (s := 0) (t := 6) (lo := 0) (u := 6) (z := v2) hI2 (by decide +kernel) (by omega) (by omega)
  have f5 : ψ2 21 ((v2).toNat) = φ 21 ((v2).toNat) := (hF2 21 (by decide) ((v2).toNat))
  have f6 := iv_ar (a := 21) (s := 0) (t := 6) (lo := 0) (u := 6) (z := v2) hI (by decide +kernel) (by omega) (by omega)
  refine ⟨by unfold hi; omega, by unfold hi; omega, fun q5 => ?_, fun q5 => ?_⟩
  · skip
    refine ⟨by omega, by omega, ?_⟩
    have i7 : Inv (hf_up ψ2 23 ((v2).toNat) 0) := iv_upI (s := 0) (t := 6) (lo := 0) (u := 5) (z := v2) hI2 (by decide +kernel) (by omega) (by omega) (by omega) (by omega)
    have r7 : Fr [17, 23, 24, 25] φ (hf_up ψ2 23 ((v2).toNat) 0) := fr_up hG2 (by decide)
    refine ⟨by omega, by omega, ?_⟩
    have f8 : ψ2 24 ((v2).toNat) = φ 24 ((v2).toNat) := (hF2 24 (by decide) ((v2).toNat))
    refine ⟨by omega, by omega, ?_⟩
    have i9 : Inv (hf_up (hf_up ψ2 23 ((v2).toNat) 0) 24 ((v2).toNat) ((ψ2 24 ((v2).toNat)) + 1)) := iv_upIn i7 (by decide) (by decide +kernel)
    have r9 : Fr [17, 23, 24, 25] φ (hf_up (hf_up ψ2 23 ((v2).toNat) 0) 24 ((v2).toNat) ((ψ2 24 ((v2).toNat)) + 1)) := fr_up r7 (by decide)
    have f10 : ψ2 17 4 = φ 17 4 := (hF2 17 (by decide) 4)
    have i11 : Inv (hf_up (hf_up (hf_up ψ2 23 ((v2).toNat) 0) 24 ((v2).toNat) ((ψ2 24 ((v2).toNat)) + 1)) 17 4 ((ψ2 17 4) + 1)) := iv_upn i9 (by decide) (by decide +kernel)
    have r11 : Fr [17, 23, 24, 25] φ (hf_up (hf_up (hf_up ψ2 23 ((v2).toNat) 0) 24 ((v2).toNat) ((ψ2 24 ((v2).toNat)) + 1)) 17 4 ((ψ2 17 4) + 1)) := fr_up r9 (by decide)
    have f12 := iv_at (a := 17) (k := 1) (lo := (-1 : Int)) (u := 7) hI2 (by decide +kernel)
    have f13 : ψ2 17 1 = φ 17 1 := (hF2 17 (by decide) 1)
    have f14 := iv_at (a := 17) (k := 1) (lo := (-1 : Int)) (u := 7) hI (by decide +kernel)
    refine ⟨by unfold hi; omega, by unfold hi; omega, fun q9 => ?_, fun q9 => ?_⟩
    · skip
      refine ⟨by omega, by omega, ?_⟩
      have f15 := iv_ar (a := 16) (s := 0) (t := 64) (lo := (-1 : Int)) (u := 7) (z := ((ψ2 17 1) * 8) + z2) hI2 (by decide +kernel) (by omega) (by omega)
      have f16 : ψ2 16 ((((ψ2 17 1) * 8) + z2).toNat) = φ 16 ((((ψ2 17 1) * 8) + z2).toNat) := (hF2 16 (by decide) ((((ψ2 17 1) * 8) + z2).toNat))
      have f17 := iv_ar (a := 16) (s := 0) (t := 64) (lo := (-1 : Int)) (u := 7) (z := ((ψ2 17 1) * 8) + z2) hI (by decide +kernel) (by omega) (by omega)
      refine ⟨by unfold hi; omega, by unfold hi; omega, fun q11 => ?_, fun q11 => ?_⟩
      · skip
        have i18 : Inv (hf_up (hf_up (hf_up (hf_up ψ2 23 ((v2).toNat) 0) 24 ((v2).toNat) ((ψ2 24 ((v2).toNat)) + 1)) 17 4 ((ψ2 17 4) + 1)) 17 1 z2) := iv_up (lo := (-1 : Int)) (u := 7) i11 (by decide +kernel) (by omega) (by omega)
        have r18 : Fr [17, 23, 24, 25] φ (hf_up (hf_up (hf_up (hf_up ψ2 23 ((v2).toNat) 0) 24 ((v2).toNat) ((ψ2 24 ((v2).toNat)) + 1)) 17 4 ((ψ2 17 4) + 1)) 17 1 z2) := fr_up r11 (by decide)
        have i19 : Inv (hf_up (hf_up (hf_up (hf_up (hf_up ψ2 23 ((v2).toNat) 0) 24 ((v2).toNat) ((ψ2 24 ((v2).toNat)) + 1)) 17 4 ((ψ2 17 4) + 1)) 17 1 z2) 17 2 v2) := iv_up (lo := (-1 : Int)) (u := 5) i18 (by decide +kernel) (by omega) (by omega)
        have r19 : Fr [17, 23, 24, 25] φ (hf_up (hf_up (hf_up (hf_up (hf_up ψ2 23 ((v2).toNat) 0) 24 ((v2).toNat) ((ψ2 24 ((v2).toNat)) + 1)) 17 4 ((ψ2 17 4) + 1)) 17 1 z2) 17 2 v2) := fr_up r18 (by decide)
        exact hQ (hf_up (hf_up (hf_up (hf_up (hf_up ψ2 23 ((v2).toNat) 0) 24 ((v2).toNat) ((ψ2 24 ((v2).toNat)) + 1)) 17 4 ((ψ2 17 4) + 1)) 17 1 z2) 17 2 v2) i19 r19
      · skip
        have f20 := iv_at (a := 17) (k := 3) (lo := (-2147483648 : Int)) (u := 2147483647) hI2 (by decide +kernel)
        have f21 : ψ2 17 3 = φ 17 3 := (hF2 17 (by decide) 3)
        have f22 := iv_at (a := 17) (k := 3) (lo := (-2147483648 : Int)) (u := 2147483647) hI (by decide +kernel)
        have f23 := hr_shl 1 (ψ2 16 ((((ψ2 17 1) * 8) + z2).toNat))
        have f24 := hr_or (ψ2 17 3) (hb_shl 1 (ψ2 16 ((((ψ2 17 1) * 8) + z2).toNat)))
        refine ⟨by omega, by omega, ?_⟩
        have f25 := iv_ar (a := 15) (s := 0) (t := 8) (lo := (-2147483648 : Int)) (u := 2147483647) (z := ψ2 16 ((((ψ2 17 1) * 8) + z2).toNat)) hI2 (by decide +kernel) (by omega) (by omega)
        have f26 : ψ2 15 ((ψ2 16 ((((ψ2 17 1) * 8) + z2).toNat)).toNat) = φ 15 ((ψ2 16 ((((ψ2 17 1) * 8) + z2).toNat)).toNat) := (hF2 15 (by decide) ((ψ2 16 ((((ψ2 17 1) * 8) + z2).toNat)).toNat))
        have f27 := iv_ar (a := 15) (s := 0) (t := 8) (lo := (-2147483648 : Int)) (u := 2147483647) (z := ψ2 16 ((((ψ2 17 1) * 8) + z2).toNat)) hI (by decide +kernel) (by omega) (by omega)
        have f28 := hr_xor (ψ2 15 ((ψ2 16 ((((ψ2 17 1) * 8) + z2).toNat)).toNat)) (-1 : Int)
        have f29 := hr_and (hb_or (ψ2 17 3) (hb_shl 1 (ψ2 16 ((((ψ2 17 1) * 8) + z2).toNat)))) (hb_xor (ψ2 15 ((ψ2 16 ((((ψ2 17 1) * 8) + z2).toNat)).toNat)) (-1 : Int))
        have i30 : Inv (hf_up (hf_up (hf_up (hf_up ψ2 23 ((v2).toNat) 0) 24 ((v2).toNat) ((ψ2 24 ((v2).toNat)) + 1)) 17 4 ((ψ2 17 4) + 1)) 17 3 (hb_and (hb_or (ψ2 17 3) (hb_shl 1 (ψ2 16 ((((ψ2 17 1) * 8) + z2).toNat)))) (hb_xor (ψ2 15 ((ψ2 16 ((((ψ2 17 1) * 8) + z2).toNat)).toNat)) (-1 : Int)))) := iv_up (lo := (-2147483648 : Int)) (u := 2147483647) i11 (by decide +kernel) (by omega) (by omega)
        have r30 : Fr [17, 23, 24, 25] φ (hf_up (hf_up (hf_up (hf_up ψ2 23 ((v2).toNat) 0) 24 ((v2).toNat) ((ψ2 24 ((v2).toNat)) + 1)) 17 4 ((ψ2 17 4) + 1)) 17 3 (hb_and (hb_or (ψ2 17 3) (hb_shl 1 (ψ2 16 ((((ψ2 17 1) * 8) + z2).toNat)))) (hb_xor (ψ2 15 ((ψ2 16 ((((ψ2 17 1) * 8) + z2).toNat)).toNat)) (-1 : Int)))) := fr_up r11 (by decide)
        refine ⟨by omega, by omega, ?_⟩
        have f31 : ψ2 25 ((ψ2 16 ((((ψ2 17 1) * 8) + z2).toNat)).toNat) = φ 25 ((ψ2 16 ((((ψ2 17 1) * 8) + z2).toNat)).toNat) := (hF2 25 (by decide) ((ψ2 16 ((((ψ2 17 1) * 8) + z2).toNat)).toNat))
        refine ⟨by omega, by omega, ?_⟩
        have i32 : Inv (hf_up (hf_up (hf_up (hf_up (hf_up ψ2 23 ((v2).toNat) 0) 24 ((v2).toNat) ((ψ2 24 ((v2).toNat)) + 1)) 17 4 ((ψ2 17 4) + 1)) 17 3 (hb_and (hb_or (ψ2 17 3) (hb_shl 1 (ψ2 16 ((((ψ2 17 1) * 8) + z2).toNat)))) (hb_xor (ψ2 15 ((ψ2 16 ((((ψ2 17 1) * 8) + z2).toNat)).toNat)) (-1 : Int)))) 25 ((ψ2 16 ((((ψ2 17 1) * 8) + z2).toNat)).toNat) ((ψ2 25 ((ψ2 16 ((((ψ2 17 1) * 8) + z2).toNat)).toNat)) + 1)) := iv_upIn i30 (by decide) (by decide +kernel)
        have r32 : Fr [17, 23, 24, 25] φ (hf_up (hf_up (hf_up (hf_up (hf_up ψ2 23 ((v2).toNat) 0) 24 ((v2).toNat) ((ψ2 24 ((v2).toNat)) + 1)) 17 4 ((ψ2 17 4) + 1)) 17 3 (hb_and (hb_or (ψ2 17 3) (hb_shl 1 (ψ2 16 ((((ψ2 17 1) * 8) + z2).toNat)))) (hb_xor (ψ2 15 ((ψ2 16 ((((ψ2 17 1) * 8) + z2).toNat)).toNat)) (-1 : Int)))) 25 ((ψ2 16 ((((ψ2 17 1) * 8) + z2).toNat)).toNat) ((ψ2 25 ((ψ2 16 ((((ψ2 17 1) * 8) + z2).toNat)).toNat)) + 1)) := fr_up r30 (by decide)
        have i33 : Inv (hf_up (hf_up (hf_up (hf_up (hf_up (hf_up ψ2 23 ((v2).toNat) 0) 24 ((v2).toNat) ((ψ2 24 ((v2).toNat)) + 1)) 17 4 ((ψ2 17 4) + 1)) 17 3 (hb_and (hb_or (ψ2 17 3) (hb_shl 1 (ψ2 16 ((((ψ2 17 1) * 8) + z2).toNat)))) (hb_xor (ψ2 15 ((ψ2 16 ((((ψ2 17 1) * 8) + z2).toNat)).toNat)) (-1 : Int)))) 25 ((ψ2 16 ((((ψ2 17 1) * 8) + z2).toNat)).toNat) ((ψ2 25 ((ψ2 16 ((((ψ2 17 1) * 8) + z2).toNat)).toNat)) + 1)) 17 1 z2) := iv_up (lo := (-1 : Int)) (u := 7) i32 (by decide +kernel) (by omega) (by omega)
        have r33 : Fr [17, 23, 24, 25] φ (hf_up (hf_up (hf_up (hf_up (hf_up (hf_up ψ2 23 ((v2).toNat) 0) 24 ((v2).toNat) ((ψ2 24 ((v2).toNat)) + 1)) 17 4 ((ψ2 17 4) + 1)) 17 3 (hb_and (hb_or (ψ2 17 3) (hb_shl 1 (ψ2 16 ((((ψ2 17 1) * 8) + z2).toNat)))) (hb_xor (ψ2 15 ((ψ2 16 ((((ψ2 17 1) * 8) + z2).toNat)).toNat)) (-1 : Int)))) 25 ((ψ2 16 ((((ψ2 17 1) * 8) + z2).toNat)).toNat) ((ψ2 25 ((ψ2 16 ((((ψ2 17 1) * 8) + z2).toNat)).toNat)) + 1)) 17 1 z2) := fr_up r32 (by decide)
        have i34 : Inv (hf_up (hf_up (hf_up (hf_up (hf_up (hf_up (hf_up ψ2 23 ((v2).toNat) 0) 24 ((v2).toNat) ((ψ2 24 ((v2).toNat)) + 1)) 17 4 ((ψ2 17 4) + 1)) 17 3 (hb_and (hb_or (ψ2 17 3) (hb_shl 1 (ψ2 16 ((((ψ2 17 1) * 8) + z2).toNat)))) (hb_xor (ψ2 15 ((ψ2 16 ((((ψ2 17 1) * 8) + z2).toNat)).toNat)) (-1 : Int)))) 25 ((ψ2 16 ((((ψ2 17 1) * 8) + z2).toNat)).toNat) ((ψ2 25 ((ψ2 16 ((((ψ2 17 1) * 8) + z2).toNat)).toNat)) + 1)) 17 1 z2) 17 2 v2) := iv_up (lo := (-1 : Int)) (u := 5) i33 (by decide +kernel) (by omega) (by omega)
        have r34 : Fr [17, 23, 24, 25] φ (hf_up (hf_up (hf_up (hf_up (hf_up (hf_up (hf_up ψ2 23 ((v2).toNat) 0) 24 ((v2).toNat) ((ψ2 24 ((v2).toNat)) + 1)) 17 4 ((ψ2 17 4) + 1)) 17 3 (hb_and (hb_or (ψ2 17 3) (hb_shl 1 (ψ2 16 ((((ψ2 17 1) * 8) + z2).toNat)))) (hb_xor (ψ2 15 ((ψ2 16 ((((ψ2 17 1) * 8) + z2).toNat)).toNat)) (-1 : Int)))) 25 ((ψ2 16 ((((ψ2 17 1) * 8) + z2).toNat)).toNat) ((ψ2 25 ((ψ2 16 ((((ψ2 17 1) * 8) + z2).toNat)).toNat)) + 1)) 17 1 z2) 17 2 v2) := fr_up r33 (by decide)
        exact hQ (hf_up (hf_up (hf_up (hf_up (hf_up (hf_up (hf_up ψ2 23 ((v2).toNat) 0) 24 ((v2).toNat) ((ψ2 24 ((v2).toNat)) + 1)) 17 4 ((ψ2 17 4) + 1)) 17 3 (hb_and (hb_or (ψ2 17 3) (hb_shl 1 (ψ2 16 ((((ψ2 17 1) * 8) + z2).toNat)))) (hb_xor (ψ2 15 ((ψ2 16 ((((ψ2 17 1) * 8) + z2).toNat)).toNat)) (-1 : Int)))) 25 ((ψ2 16 ((((ψ2 17 1) * 8) + z2).toNat)).toNat) ((ψ2 25 ((ψ2 16 ((((ψ2 17 1) * 8) + z2).toNat)).toNat)) + 1)) 17 1 z2) 17 2 v2) i34 r34
    · skip
      have i35 : Inv (hf_up (hf_up (hf_up (hf_up ψ2 23 ((v2).toNat) 0) 24 ((v2).toNat) ((ψ2 24 ((v2).toNat)) + 1)) 17 4 ((ψ2 17 4) + 1)) 17 1 z2) := iv_up (lo := (-1 : Int)) (u := 7) i11 (by decide +kernel) (by omega) (by omega)
      have r35 : Fr [17, 23, 24, 25] φ (hf_up (hf_up (hf_up (hf_up ψ2 23 ((v2).toNat) 0) 24 ((v2).toNat) ((ψ2 24 ((v2).toNat)) + 1)) 17 4 ((ψ2 17 4) + 1)) 17 1 z2) := fr_up r11 (by decide)
      have i36 : Inv (hf_up (hf_up (hf_up (hf_up (hf_up ψ2 23 ((v2).toNat) 0) 24 ((v2).toNat) ((ψ2 24 ((v2).toNat)) + 1)) 17 4 ((ψ2 17 4) + 1)) 17 1 z2) 17 2 v2) := iv_up (lo := (-1 : Int)) (u := 5) i35 (by decide +kernel) (by omega) (by omega)
      have r36 : Fr [17, 23, 24, 25] φ (hf_up (hf_up (hf_up (hf_up (hf_up ψ2 23 ((v2).toNat) 0) 24 ((v2).toNat) ((ψ2 24 ((v2).toNat)) + 1)) 17 4 ((ψ2 17 4) + 1)) 17 1 z2) 17 2 v2) := fr_up r35 (by decide)
      exact hQ (hf_up (hf_up (hf_up (hf_up (hf_up ψ2 23 ((v2).toNat) 0) 24 ((v2).toNat) ((ψ2 24 ((v2).toNat)) + 1)) 17 4 ((ψ2 17 4) + 1)) 17 1 z2) 17 2 v2) i36 r36
  · skip
    refine ⟨by omega, by omega, ?_⟩
    have i37 : Inv (hf_up ψ2 23 ((v2).toNat) ((ψ2 23 ((v2).toNat)) + 1)) := iv_upI (s := 0) (t := 6) (lo := 0) (u := 5) (z := v2) hI2 (by decide +kernel) (by omega) (by omega) (by omega) (by omega)
    have r37 : Fr [17, 23, 24, 25] φ (hf_up ψ2 23 ((v2).toNat) ((ψ2 23 ((v2).toNat)) + 1)) := fr_up hG2 (by decide)
    refine ⟨by omega, by omega, ?_⟩
    have f38 : ψ2 24 ((v2).toNat) = φ 24 ((v2).toNat) := (hF2 24 (by decide) ((v2).toNat))
    refine ⟨by omega, by omega, ?_⟩
    have i39 : Inv (hf_up (hf_up ψ2 23 ((v2).toNat) ((ψ2 23 ((v2).toNat)) + 1)) 24 ((v2).toNat) ((ψ2 24 ((v2).toNat)) + 1)) := iv_upIn i37 (by decide) (by decide +kernel)
    have r39 : Fr [17, 23, 24, 25] φ (hf_up (hf_up ψ2 23 ((v2).toNat) ((ψ2 23 ((v2).toNat)) + 1)) 24 ((v2).toNat) ((ψ2 24 ((v2).toNat)) + 1)) := fr_up r37 (by decide)
    have f40 : ψ2 17 4 = φ 17 4 := (hF2 17 (by decide) 4)
    have i41 : Inv (hf_up (hf_up (hf_up ψ2 23 ((v2).toNat) ((ψ2 23 ((v2).toNat)) + 1)) 24 ((v2).toNat) ((ψ2 24 ((v2).toNat)) + 1)) 17 4 ((ψ2 17 4) + 1)) := iv_upn i39 (by decide) (by decide +kernel)
    have r41 : Fr [17, 23, 24, 25] φ (hf_up (hf_up (hf_up ψ2 23 ((v2).toNat) ((ψ2 23 ((v2).toNat)) + 1)) 24 ((v2).toNat) ((ψ2 24 ((v2).toNat)) + 1)) 17 4 ((ψ2 17 4) + 1)) := fr_up r39 (by decide)
    have f42 := iv_at (a := 17) (k := 1) (lo := (-1 : Int)) (u := 7) hI2 (by decide +kernel)
    have f43 : ψ2 17 1 = φ 17 1 := (hF2 17 (by decide) 1)
    have f44 := iv_at (a := 17) (k := 1) (lo := (-1 : Int)) (u := 7) hI (by decide +kernel)
    refine ⟨by unfold hi; omega, by unfold hi; omega, fun q22 => ?_, fun q22 => ?_⟩
    · skip
      refine ⟨by omega, by omega, ?_⟩
      have f45 := iv_ar (a := 16) (s := 0) (t := 64) (lo := (-1 : Int)) (u := 7) (z := ((ψ2 17 1) * 8) + z2) hI2 (by decide +kernel) (by omega) (by omega)
      have f46 : ψ2 16 ((((ψ2 17 1) * 8) + z2).toNat) = φ 16 ((((ψ2 17 1) * 8) + z2).toNat) := (hF2 16 (by decide) ((((ψ2 17 1) * 8) + z2).toNat))
      have f47 := iv_ar (a := 16) (s := 0) (t := 64) (lo := (-1 : Int)) (u := 7) (z := ((ψ2 17 1) * 8) + z2) hI (by decide +kernel) (by omega) (by omega)
      refine ⟨by unfold hi; omega, by unfold hi; omega, fun q24 => ?_, fun q24 => ?_⟩
      · skip
        have i48 : Inv (hf_up (hf_up (hf_up (hf_up ψ2 23 ((v2).toNat) ((ψ2 23 ((v2).toNat)) + 1)) 24 ((v2).toNat) ((ψ2 24 ((v2).toNat)) + 1)) 17 4 ((ψ2 17 4) + 1)) 17 1 z2) := iv_up (lo := (-1 : Int)) (u := 7) i41 (by decide +kernel) (by omega) (by omega)
        have r48 : Fr [17, 23, 24, 25] φ (hf_up (hf_up (hf_up (hf_up ψ2 23 ((v2).toNat) ((ψ2 23 ((v2).toNat)) + 1)) 24 ((v2).toNat) ((ψ2 24 ((v2).toNat)) + 1)) 17 4 ((ψ2 17 4) + 1)) 17 1 z2) := fr_up r41 (by decide)
        have i49 : Inv (hf_up (hf_up (hf_up (hf_up (hf_up ψ2 23 ((v2).toNat) ((ψ2 23 ((v2).toNat)) + 1)) 24 ((v2).toNat) ((ψ2 24 ((v2).toNat)) + 1)) 17 4 ((ψ2 17 4) + 1)) 17 1 z2) 17 2 v2) := iv_up (lo := (-1 : Int)) (u := 5) i48 (by decide +kernel) (by omega) (by omega)
        have r49 : Fr [17, 23, 24, 25] φ (hf_up (hf_up (hf_up (hf_up (hf_up ψ2 23 ((v2).toNat) ((ψ2 23 ((v2).toNat)) + 1)) 24 ((v2).toNat) ((ψ2 24 ((v2).toNat)) + 1)) 17 4 ((ψ2 17 4) + 1)) 17 1 z2) 17 2 v2) := fr_up r48 (by decide)
        exact hQ (hf_up (hf_up (hf_up (hf_up (hf_up ψ2 23 ((v2).toNat) ((ψ2 23 ((v2).toNat)) + 1)) 24 ((v2).toNat) ((ψ2 24 ((v2).toNat)) + 1)) 17 4 ((ψ2 17 4) + 1)) 17 1 z2) 17 2 v2) i49 r49
      · skip
        have f50 := iv_at (a := 17) (k := 3) (lo := (-2147483648 : Int)) (u := 2147483647) hI2 (by decide +kernel)
        have f51 : ψ2 17 3 = φ 17 3 := (hF2 17 (by decide) 3)
        have f52 := iv_at (a := 17) (k := 3) (lo := (-2147483648 : Int)) (u := 2147483647) hI (by decide +kernel)
        have f53 := hr_shl 1 (ψ2 16 ((((ψ2 17 1) * 8) + z2).toNat))
        have f54 := hr_or (ψ2 17 3) (hb_shl 1 (ψ2 16 ((((ψ2 17 1) * 8) + z2).toNat)))
        refine ⟨by omega, by omega, ?_⟩
        have f55 := iv_ar (a := 15) (s := 0) (t := 8) (lo := (-2147483648 : Int)) (u := 2147483647) (z := ψ2 16 ((((ψ2 17 1) * 8) + z2).toNat)) hI2 (by decide +kernel) (by omega) (by omega)
        have f56 : ψ2 15 ((ψ2 16 ((((ψ2 17 1) * 8) + z2).toNat)).toNat) = φ 15 ((ψ2 16 ((((ψ2 17 1) * 8) + z2).toNat)).toNat) := (hF2 15 (by decide) ((ψ2 16 ((((ψ2 17 1) * 8) + z2).toNat)).toNat))
        have f57 := iv_ar (a := 15) (s := 0) (t := 8) (lo := (-2147483648 : Int)) (u := 2147483647) (z := ψ2 16 ((((ψ2 17 1) * 8) + z2).toNat)) hI (by decide +kernel) (by omega) (by omega)
        have f58 := hr_xor (ψ2 15 ((ψ2 16 ((((ψ2 17 1) * 8) + z2).toNat)).toNat)) (-1 : Int)
        have f59 := hr_and (hb_or (ψ2 17 3) (hb_shl 1 (ψ2 16 ((((ψ2 17 1) * 8) + z2).toNat)))) (hb_xor (ψ2 15 ((ψ2 16 ((((ψ2 17 1) * 8) + z2).toNat)).toNat)) (-1 : Int))
        have i60 : Inv (hf_up (hf_up (hf_up (hf_up ψ2 23 ((v2).toNat) ((ψ2 23 ((v2).toNat)) + 1)) 24 ((v2).toNat) ((ψ2 24 ((v2).toNat)) + 1)) 17 4 ((ψ2 17 4) + 1)) 17 3 (hb_and (hb_or (ψ2 17 3) (hb_shl 1 (ψ2 16 ((((ψ2 17 1) * 8) + z2).toNat)))) (hb_xor (ψ2 15 ((ψ2 16 ((((ψ2 17 1) * 8) + z2).toNat)).toNat)) (-1 : Int)))) := iv_up (lo := (-2147483648 : Int)) (u := 2147483647) i41 (by decide +kernel) (by omega) (by omega)
        have r60 : Fr [17, 23, 24, 25] φ (hf_up (hf_up (hf_up (hf_up ψ2 23 ((v2).toNat) ((ψ2 23 ((v2).toNat)) + 1)) 24 ((v2).toNat) ((ψ2 24 ((v2).toNat)) + 1)) 17 4 ((ψ2 17 4) + 1)) 17 3 (hb_and (hb_or (ψ2 17 3) (hb_shl 1 (ψ2 16 ((((ψ2 17 1) * 8) + z2).toNat)))) (hb_xor (ψ2 15 ((ψ2 16 ((((ψ2 17 1) * 8) + z2).toNat)).toNat)) (-1 : Int)))) := fr_up r41 (by decide)
        refine ⟨by omega, by omega, ?_⟩
        have f61 : ψ2 25 ((ψ2 16 ((((ψ2 17 1) * 8) + z2).toNat)).toNat) = φ 25 ((ψ2 16 ((((ψ2 17 1) * 8) + z2).toNat)).toNat) := (hF2 25 (by decide) ((ψ2 16 ((((ψ2 17 1) * 8) + z2).toNat)).toNat))
        refine ⟨by omega, by omega, ?_⟩
        have i62 : Inv (hf_up (hf_up (hf_up (hf_up (hf_up ψ2 23 ((v2).toNat) ((ψ2 23 ((v2).toNat)) + 1)) 24 ((v2).toNat) ((ψ2 24 ((v2).toNat)) + 1)) 17 4 ((ψ2 17 4) + 1)) 17 3 (hb_and (hb_or (ψ2 17 3) (hb_shl 1 (ψ2 16 ((((ψ2 17 1) * 8) + z2).toNat)))) (hb_xor (ψ2 15 ((ψ2 16 ((((ψ2 17 1) * 8) + z2).toNat)).toNat)) (-1 : Int)))) 25 ((ψ2 16 ((((ψ2 17 1) * 8) + z2).toNat)).toNat) ((ψ2 25 ((ψ2 16 ((((ψ2 17 1) * 8) + z2).toNat)).toNat)) + 1)) := iv_upIn i60 (by decide) (by decide +kernel)
        have r62 : Fr [17, 23, 24, 25] φ (hf_up (hf_up (hf_up (hf_up (hf_up ψ2 23 ((v2).toNat) ((ψ2 23 ((v2).toNat)) + 1)) 24 ((v2).toNat) ((ψ2 24 ((v2).toNat)) + 1)) 17 4 ((ψ2 17 4) + 1)) 17 3 (hb_and (hb_or (ψ2 17 3) (hb_shl 1 (ψ2 16 ((((ψ2 17 1) * 8) + z2).toNat)))) (hb_xor (ψ2 15 ((ψ2 16 ((((ψ2 17 1) * 8) + z2).toNat)).toNat)) (-1 : Int)))) 25 ((ψ2 16 ((((ψ2 17 1) * 8) + z2).toNat)).toNat) ((ψ2 25 ((ψ2 16 ((((ψ2 17 1) * 8) + z2).toNat)).toNat)) + 1)) := fr_up r60 (by decide)
        have i63 : Inv (hf_up (hf_up (hf_up (hf_up (hf_up (hf_up ψ2 23 ((v2).toNat) ((ψ2 23 ((v2).toNat)) + 1)) 24 ((v2).toNat) ((ψ2 24 ((v2).toNat)) + 1)) 17 4 ((ψ2 17 4) + 1)) 17 3 (hb_and (hb_or (ψ2 17 3) (hb_shl 1 (ψ2 16 ((((ψ2 17 1) * 8) + z2).toNat)))) (hb_xor (ψ2 15 ((ψ2 16 ((((ψ2 17 1) * 8) + z2).toNat)).toNat)) (-1 : Int)))) 25 ((ψ2 16 ((((ψ2 17 1) * 8) + z2).toNat)).toNat) ((ψ2 25 ((ψ2 16 ((((ψ2 17 1) * 8) + z2).toNat)).toNat)) + 1)) 17 1 z2) := iv_up (lo := (-1 : Int)) (u := 7) i62 (by decide +kernel) (by omega) (by omega)
        have r63 : Fr [17, 23, 24, 25] φ (hf_up (hf_up (hf_up (hf_up (hf_up (hf_up ψ2 23 ((v2).toNat) ((ψ2 23 ((v2).toNat)) + 1)) 24 ((v2).toNat) ((ψ2 24 ((v2).toNat)) + 1)) 17 4 ((ψ2 17 4) + 1)) 17 3 (hb_and (hb_or (ψ2 17 3) (hb_shl 1 (ψ2 16 ((((ψ2 17 1) * 8) + z2).toNat)))) (hb_xor (ψ2 15 ((ψ2 16 ((((ψ2 17 1) * 8) + z2).toNat)).toNat)) (-1 : Int)))) 25 ((ψ2 16 ((((ψ2 17 1) * 8) + z2).toNat)).toNat) ((ψ2 25 ((ψ2 16 ((((ψ2 17 1) * 8) + z2).toNat)).toNat)) + 1)) 17 1 z2) := fr_up r62 (by decide)
        have i64 : Inv (hf_up (hf_up (hf_up (hf_up (hf_up (hf_up (hf_up ψ2 23 ((v2).toNat) ((ψ2 23 ((v2).toNat)) + 1)) 24 ((v2).toNat) ((ψ2 24 ((v2).toNat)) + 1)) 17 4 ((ψ2 17 4) + 1)) 17 3 (hb_and (hb_or (ψ2 17 3) (hb_shl 1 (ψ2 16 ((((ψ2 17 1) * 8) + z2).toNat)))) (hb_xor (ψ2 15 ((ψ2 16 ((((ψ2 17 1) * 8) + z2).toNat)).toNat)) (-1 : Int)))) 25 ((ψ2 16 ((((ψ2 17 1) * 8) + z2).toNat)).toNat) ((ψ2 25 ((ψ2 16 ((((ψ2 17 1) * 8) + z2).toNat)).toNat)) + 1)) 17 1 z2) 17 2 v2) := iv_up (lo := (-1 : Int)) (u := 5) i63 (by decide +kernel) (by omega) (by omega)
        have r64 : Fr [17, 23, 24, 25] φ (hf_up (hf_up (hf_up (hf_up (hf_up (hf_up (hf_up ψ2 23 ((v2).toNat) ((ψ2 23 ((v2).toNat)) + 1)) 24 ((v2).toNat) ((ψ2 24 ((v2).toNat)) + 1)) 17 4 ((ψ2 17 4) + 1)) 17 3 (hb_and (hb_or (ψ2 17 3) (hb_shl 1 (ψ2 16 ((((ψ2 17 1) * 8) + z2).toNat)))) (hb_xor (ψ2 15 ((ψ2 16 ((((ψ2 17 1) * 8) + z2).toNat)).toNat)) (-1 : Int)))) 25 ((ψ2 16 ((((ψ2 17 1) * 8) + z2).toNat)).toNat) ((ψ2 25 ((ψ2 16 ((((ψ2 17 1) * 8) + z2).toNat)).toNat)) + 1)) 17 1 z2) 17 2 v2) := fr_up r63 (by decide)
        exact hQ (hf_up (hf_up (hf_up (hf_up (hf_up (hf_up (hf_up ψ2 23 ((v2).toNat) ((ψ2 23 ((v2).toNat)) + 1)) 24 ((v2).toNat) ((ψ2 24 ((v2).toNat)) + 1)) 17 4 ((ψ2 17 4) + 1)) 17 3 (hb_and (hb_or (ψ2 17 3) (hb_shl 1 (ψ2 16 ((((ψ2 17 1) * 8) + z2).toNat)))) (hb_xor (ψ2 15 ((ψ2 16 ((((ψ2 17 1) * 8) + z2).toNat)).toNat)) (-1 : Int)))) 25 ((ψ2 16 ((((ψ2 17 1) * 8) + z2).toNat)).toNat) ((ψ2 25 ((ψ2 16 ((((ψ2 17 1) * 8) + z2).toNat)).toNat)) + 1)) 17 1 z2) 17 2 v2) i64 r64
    · skip
      have i65 : Inv (hf_up (hf_up (hf_up (hf_up ψ2 23 ((v2).toNat) ((ψ2 23 ((v2).toNat)) + 1)) 24 ((v2).toNat) ((ψ2 24 ((v2).toNat)) + 1)) 17 4 ((ψ2 17 4) + 1)) 17 1 z2) := iv_up (lo := (-1 : Int)) (u := 7) i41 (by decide +kernel) (by omega) (by omega)
      have r65 : Fr [17, 23, 24, 25] φ (hf_up (hf_up (hf_up (hf_up ψ2 23 ((v2).toNat) ((ψ2 23 ((v2).toNat)) + 1)) 24 ((v2).toNat) ((ψ2 24 ((v2).toNat)) + 1)) 17 4 ((ψ2 17 4) + 1)) 17 1 z2) := fr_up r41 (by decide)
      have i66 : Inv (hf_up (hf_up (hf_up (hf_up (hf_up ψ2 23 ((v2).toNat) ((ψ2 23 ((v2).toNat)) + 1)) 24 ((v2).toNat) ((ψ2 24 ((v2).toNat)) + 1)) 17 4 ((ψ2 17 4) + 1)) 17 1 z2) 17 2 v2) := iv_up (lo := (-1 : Int)) (u := 5) i65 (by decide +kernel) (by omega) (by omega)
      have r66 : Fr [17, 23, 24, 25] φ (hf_up (hf_up (hf_up (hf_up (hf_up ψ2 23 ((v2).toNat) ((ψ2 23 ((v2).toNat)) + 1)) 24 ((v2).toNat) ((ψ2 24 ((v2).toNat)) + 1)) 17 4 ((ψ2 17 4) + 1)) 17 1 z2) 17 2 v2) := fr_up r65 (by decide)
      exact hQ (hf_up (hf_up (hf_up (hf_up (hf_up ψ2 23 ((v2).toNat) ((ψ2 23 ((v2).toNat)) + 1)) 24 ((v2).toNat) ((ψ2 24 ((v2).toNat)) + 1)) 17 4 ((ψ2 17 4) + 1)) 17 1 z2) 17 2 v2) i66 r66
theorem sf_92_5_v {sc : List Int} {d : Nat} {φ : hf_F} {x : Nat} {Q : Option jm_V → hf_F → Nat → Prop} {v1 v2 : Int}
    (H : 0 ≤ v1 ∧ v1 < 8 ∧ (0 ≤ v1 ∧ v1 < 8 ∧ (hi (v2 + (φ 11 ((v1).toNat))) ∧ hi (φ 12 ((v1).toNat)) ∧ ((v2 + (φ 11 ((v1).toNat))) < (φ 12 ((v1).toNat)) → Q (some (0, v2 + (φ 11 ((v1).toNat)))) φ x) ∧ (¬ (v2 + (φ 11 ((v1).toNat))) < (φ 12 ((v1).toNat)) → 0 ≤ v1 ∧ v1 < 8 ∧ (Q (some (0, (v2 + (φ 11 ((v1).toNat))) - (φ 12 ((v1).toNat)))) φ x))))) :
    hw sc d 92 0 [(0, (2, 5)), (1, (0, v1)), (2, (0, v2))] [] φ x Q := by
  refine hw_ld (b := 2) (e := 0) (by decide +kernel) rfl ?_
  refine hw_ald (b := 0) (e := 0) (by decide +kernel) rfl (by decide) ?_
  refine hr_gr (w := 11) (b := 3) (e := 5) 5 rfl (by decide +kernel) ?_
  refine hw_ld (b := 1) (e := 0) (by decide +kernel) rfl ?_
  obtain ⟨hl1, hu1, H⟩ := H
  refine hr_al (b := 0) (a0 := 0) (e := 0) (n := 8) (w := φ 11 ((v1).toNat)) 11 rfl (by decide +kernel) (by decide) hl1 hu1 rfl ?_
  refine hw_bin (w := v2 + (φ 11 ((v1).toNat))) (a0 := 0) (b := 0) (e := 0) (by decide +kernel) rfl ?_
  refine hw_st (L' := (jm_st1 [(0, (2, 5)), (1, (0, v1)), (2, (0, v2))] 3 (0, v2 + (φ 11 ((v1).toNat))))) (b := 3) (e := 0) (by decide +kernel) rfl ?_
  refine hw_ld (b := 3) (e := 0) (by decide +kernel) get_st1e ?_
  refine hw_ald (b := 0) (e := 0) (by decide +kernel) (get_st1 rfl (by decide) (fun q => absurd q.1 (by decide))) (by decide) ?_
  refine hr_gr (w := 12) (b := 3) (e := 6) 5 rfl (by decide +kernel) ?_
  refine hw_ld (b := 1) (e := 0) (by decide +kernel) (get_st1 rfl (by decide) (fun q => absurd q.1 (by decide))) ?_
  obtain ⟨hl2, hu2, H⟩ := H
  refine hr_al (b := 0) (a0 := 0) (e := 0) (n := 8) (w := φ 12 ((v1).toNat)) 12 rfl (by decide +kernel) (by decide) hl2 hu2 rfl ?_
  obtain ⟨hz3, hy3, ht3, hf3⟩ := H
  refine hw_if2 (a0 := 0) (b := 2) (e := 30) (by decide +kernel) hz3 hy3 (fun q => ?_) (fun q => ?_)
  · have H := ht3 q
    refine hw_ld (b := 3) (e := 0) (by decide +kernel) get_st1e ?_
    exact hw_ret (a0 := 0) (e := 0) (by decide +kernel) (Or.inl rfl) H
  · have H := hf3 q
    refine hw_ld (b := 3) (e := 0) (by decide +kernel) get_st1e ?_
    refine hw_ald (b := 0) (e := 0) (by decide +kernel) (get_st1 rfl (by decide) (fun q => absurd q.1 (by decide))) (by decide) ?_
    refine hr_gr (w := 12) (b := 3) (e := 6) 5 rfl (by decide +kernel) ?_
    refine hw_ld (b := 1) (e := 0) (by decide +kernel) (get_st1 rfl (by decide) (fun q => absurd q.1 (by decide))) ?_
    obtain ⟨hl5, hu5, H⟩ := H
    refine hr_al (b := 0) (a0 := 0) (e := 0) (n := 8) (w := φ 12 ((v1).toNat)) 12 rfl (by decide +kernel) (by decide) hl5 hu5 rfl ?_
    refine hw_bin (w := (v2 + (φ 11 ((v1).toNat))) - (φ 12 ((v1).toNat))) (a0 := 0) (b := 1) (e := 0) (by decide +kernel) rfl ?_
    refine hw_goto (a0 := 0) (b := 0) (e := 31) (by decide +kernel) ?_
    exact hw_ret (a0 := 0) (e := 0) (by decide +kernel) (Or.inl rfl) H
theorem sf_92_5 {sc : List Int} {d : Nat} {φ : hf_F} {x : Nat} {Q : Option jm_V → hf_F → Nat → Prop} {v1 v2 : Int} (hI : Inv φ) (h1a : 0 ≤ v1) (h1b : v1 ≤ 7) (h2a : 0 ≤ v2) (h2b : v2 ≤ 1000000) (hQ : ∀ (r : Int) (ψ : hf_F), Inv ψ → Fr [] φ ψ → 0 ≤ r ∧ r ≤ 1000029 ∧ r ≤ v2 + 29 → Q (some (0, r)) ψ x) : hw sc d 92 0 [(0, (2, 5)), (1, (0, v1)), (2, (0, v2))] [] φ x Q := by
  apply sf_92_5_v
  refine ⟨by omega, by omega, ?_⟩
  have f1 := iv_ar (a := 11) (s := 0) (t := 8) (lo := 0) (u := 29) (z := v1) hI (by decide +kernel) (by omega) (by omega)
  refine ⟨by omega, by omega, ?_⟩
  have f2 := iv_ar (a := 12) (s := 0) (t := 8) (lo := 0) (u := 30) (z := v1) hI (by decide +kernel) (by omega) (by omega)
  refine ⟨by unfold hi; omega, by unfold hi; omega, fun q3 => ?_, fun q3 => ?_⟩
  · skip
    exact hQ (v2 + (φ 11 ((v1).toNat))) φ hI (fr_rf) ⟨by omega, by omega, by intros; omega⟩
  · skip
    refine ⟨by omega, by omega, ?_⟩
    exact hQ ((v2 + (φ 11 ((v1).toNat))) - (φ 12 ((v1).toNat))) φ hI (fr_rf) ⟨by omega, by omega, by intros; omega⟩
theorem sf_65_5_31_v {sc : List Int} {d : Nat} {φ : hf_F} {x : Nat} {Q : Option jm_V → hf_F → Nat → Prop} 
    (H : Q none (hf_cp (hf_cp (hf_cp (hf_cp (hf_cp (hf_cp (hf_cp (hf_cp (hf_cp (hf_cp (hf_cp φ 32 6 5) 33 7 40) 34 8 3) 35 9 3) 36 10 8) 37 11 8) 38 12 8) 39 13 8) 40 14 8) 41 15 8) 42 16 64) x) :
    hw sc d 65 0 [(0, (2, 5)), (1, (2, 31))] [] φ x Q := by
  refine hw_ald (b := 1) (e := 0) (by decide +kernel) rfl (by decide) ?_
  refine hr_gr (w := 32) (b := 3) (e := 0) 31 rfl (by decide +kernel) ?_
  refine hw_k (c := 0) (b := 0) (e := 1) (by decide +kernel) ?_
  refine hw_ald (b := 0) (e := 0) (by decide +kernel) rfl (by decide) ?_
  refine hr_gr (w := 6) (b := 3) (e := 0) 5 rfl (by decide +kernel) ?_
  refine hw_k (c := 0) (b := 0) (e := 1) (by decide +kernel) ?_
  refine hw_k (c := 5) (b := 0) (e := 1) (by decide +kernel) ?_
  refine hr_cp (a0 := 0) (b0 := 0) (e := 0) 32 6 5 rfl rfl rfl (by decide +kernel) (Nat.le_of_ble_eq_true rfl) ?_
  refine hw_ald (b := 1) (e := 0) (by decide +kernel) rfl (by decide) ?_
  refine hr_gr (w := 33) (b := 3) (e := 1) 31 rfl (by decide +kernel) ?_
  refine hw_k (c := 0) (b := 0) (e := 1) (by decide +kernel) ?_
  refine hw_ald (b := 0) (e := 0) (by decide +kernel) rfl (by decide) ?_
  refine hr_gr (w := 7) (b := 3) (e := 1) 5 rfl (by decide +kernel) ?_
  refine hw_k (c := 0) (b := 0) (e := 1) (by decide +kernel) ?_
  refine hw_k (c := 40) (b := 1) (e := 2) (by decide +kernel) ?_
  refine hr_cp (a0 := 0) (b0 := 0) (e := 0) 33 7 40 rfl rfl rfl (by decide +kernel) (Nat.le_of_ble_eq_true rfl) ?_
  refine hw_ald (b := 1) (e := 0) (by decide +kernel) rfl (by decide) ?_
  refine hr_gr (w := 34) (b := 3) (e := 2) 31 rfl (by decide +kernel) ?_
  refine hw_k (c := 0) (b := 0) (e := 1) (by decide +kernel) ?_
  refine hw_ald (b := 0) (e := 0) (by decide +kernel) rfl (by decide) ?_
  refine hr_gr (w := 8) (b := 3) (e := 2) 5 rfl (by decide +kernel) ?_
  refine hw_k (c := 0) (b := 0) (e := 1) (by decide +kernel) ?_
  refine hw_k (c := 3) (b := 0) (e := 1) (by decide +kernel) ?_
  refine hr_cp (a0 := 0) (b0 := 0) (e := 0) 34 8 3 rfl rfl rfl (by decide +kernel) (Nat.le_of_ble_eq_true rfl) ?_
  refine hw_ald (b := 1) (e := 0) (by decide +kernel) rfl (by decide) ?_
  refine hr_gr (w := 35) (b := 3) (e := 3) 31 rfl (by decide +kernel) ?_
  refine hw_k (c := 0) (b := 0) (e := 1) (by decide +kernel) ?_
  refine hw_ald (b := 0) (e := 0) (by decide +kernel) rfl (by decide) ?_
  refine hr_gr (w := 9) (b := 3) (e := 3) 5 rfl (by decide +kernel) ?_
  refine hw_k (c := 0) (b := 0) (e := 1) (by decide +kernel) ?_
  refine hw_k (c := 3) (b := 0) (e := 1) (by decide +kernel) ?_
  refine hr_cp (a0 := 0) (b0 := 0) (e := 0) 35 9 3 rfl rfl rfl (by decide +kernel) (Nat.le_of_ble_eq_true rfl) ?_
  refine hw_ald (b := 1) (e := 0) (by decide +kernel) rfl (by decide) ?_
  refine hr_gr (w := 36) (b := 3) (e := 4) 31 rfl (by decide +kernel) ?_
  refine hw_k (c := 0) (b := 0) (e := 1) (by decide +kernel) ?_
  refine hw_ald (b := 0) (e := 0) (by decide +kernel) rfl (by decide) ?_
  refine hr_gr (w := 10) (b := 3) (e := 4) 5 rfl (by decide +kernel) ?_
  refine hw_k (c := 0) (b := 0) (e := 1) (by decide +kernel) ?_
  refine hw_k (c := 8) (b := 1) (e := 2) (by decide +kernel) ?_
  refine hr_cp (a0 := 0) (b0 := 0) (e := 0) 36 10 8 rfl rfl rfl (by decide +kernel) (Nat.le_of_ble_eq_true rfl) ?_
  refine hw_ald (b := 1) (e := 0) (by decide +kernel) rfl (by decide) ?_
  refine hr_gr (w := 37) (b := 3) (e := 5) 31 rfl (by decide +kernel) ?_
  refine hw_k (c := 0) (b := 0) (e := 1) (by decide +kernel) ?_
  refine hw_ald (b := 0) (e := 0) (by decide +kernel) rfl (by decide) ?_
  refine hr_gr (w := 11) (b := 3) (e := 5) 5 rfl (by decide +kernel) ?_
  refine hw_k (c := 0) (b := 0) (e := 1) (by decide +kernel) ?_
  refine hw_k (c := 8) (b := 1) (e := 2) (by decide +kernel) ?_
  refine hr_cp (a0 := 0) (b0 := 0) (e := 0) 37 11 8 rfl rfl rfl (by decide +kernel) (Nat.le_of_ble_eq_true rfl) ?_
  refine hw_ald (b := 1) (e := 0) (by decide +kernel) rfl (by decide) ?_
  refine hr_gr (w := 38) (b := 3) (e := 6) 31 rfl (by decide +kernel) ?_
  refine hw_k (c := 0) (b := 0) (e := 1) (by decide +kernel) ?_
  refine hw_ald (b := 0) (e := 0) (by decide +kernel) rfl (by decide) ?_
  refine hr_gr (w := 12) (b := 3) (e := 6) 5 rfl (by decide +kernel) ?_
  refine hw_k (c := 0) (b := 0) (e := 1) (by decide +kernel) ?_
  refine hw_k (c := 8) (b := 1) (e := 2) (by decide +kernel) ?_
  refine hr_cp (a0 := 0) (b0 := 0) (e := 0) 38 12 8 rfl rfl rfl (by decide +kernel) (Nat.le_of_ble_eq_true rfl) ?_
  refine hw_ald (b := 1) (e := 0) (by decide +kernel) rfl (by decide) ?_
  refine hr_gr (w := 39) (b := 3) (e := 7) 31 rfl (by decide +kernel) ?_
  refine hw_k (c := 0) (b := 0) (e := 1) (by decide +kernel) ?_
  refine hw_ald (b := 0) (e := 0) (by decide +kernel) rfl (by decide) ?_
  refine hr_gr (w := 13) (b := 3) (e := 7) 5 rfl (by decide +kernel) ?_
  refine hw_k (c := 0) (b := 0) (e := 1) (by decide +kernel) ?_
  refine hw_k (c := 8) (b := 1) (e := 2) (by decide +kernel) ?_
  refine hr_cp (a0 := 0) (b0 := 0) (e := 0) 39 13 8 rfl rfl rfl (by decide +kernel) (Nat.le_of_ble_eq_true rfl) ?_
  refine hw_ald (b := 1) (e := 0) (by decide +kernel) rfl (by decide) ?_
  refine hr_gr (w := 40) (b := 3) (e := 8) 31 rfl (by decide +kernel) ?_
  refine hw_k (c := 0) (b := 0) (e := 1) (by decide +kernel) ?_
  refine hw_ald (b := 0) (e := 0) (by decide +kernel) rfl (by decide) ?_
  refine hr_gr (w := 14) (b := 3) (e := 8) 5 rfl (by decide +kernel) ?_
  refine hw_k (c := 0) (b := 0) (e := 1) (by decide +kernel) ?_
  refine hw_k (c := 8) (b := 1) (e := 2) (by decide +kernel) ?_
  refine hr_cp (a0 := 0) (b0 := 0) (e := 0) 40 14 8 rfl rfl rfl (by decide +kernel) (Nat.le_of_ble_eq_true rfl) ?_
  refine hw_ald (b := 1) (e := 0) (by decide +kernel) rfl (by decide) ?_
  refine hr_gr (w := 41) (b := 3) (e := 9) 31 rfl (by decide +kernel) ?_
  refine hw_k (c := 0) (b := 0) (e := 1) (by decide +kernel) ?_
  refine hw_ald (b := 0) (e := 0) (by decide +kernel) rfl (by decide) ?_
  refine hr_gr (w := 15) (b := 3) (e := 9) 5 rfl (by decide +kernel) ?_
  refine hw_k (c := 0) (b := 0) (e := 1) (by decide +kernel) ?_
  refine hw_k (c := 8) (b := 1) (e := 2) (by decide +kernel) ?_
  refine hr_cp (a0 := 0) (b0 := 0) (e := 0) 41 15 8 rfl rfl rfl (by decide +kernel) (Nat.le_of_ble_eq_true rfl) ?_
  refine hw_ald (b := 1) (e := 0) (by decide +kernel) rfl (by decide) ?_
  refine hr_gr (w := 42) (b := 3) (e := 10) 31 rfl (by decide +kernel) ?_
  refine hw_k (c := 0) (b := 0) (e := 1) (by decide +kernel) ?_
  refine hw_ald (b := 0) (e := 0) (by decide +kernel) rfl (by decide) ?_
  refine hr_gr (w := 16) (b := 3) (e := 10) 5 rfl (by decide +kernel) ?_
  refine hw_k (c := 0) (b := 0) (e := 1) (by decide +kernel) ?_
  refine hw_k (c := 64) (b := 1) (e := 2) (by decide +kernel) ?_
  refine hr_cp (a0 := 0) (b0 := 0) (e := 0) 42 16 64 rfl rfl rfl (by decide +kernel) (Nat.le_of_ble_eq_true rfl) ?_
  exact hw_vret (a0 := 0) (e := 0) (by decide +kernel) H
theorem sf_65_5_31 {sc : List Int} {d : Nat} {φ : hf_F} {x : Nat} {Q : Option jm_V → hf_F → Nat → Prop}  (hI : Inv φ)  (hQ : ∀ ψ : hf_F, Inv ψ → Fr [6, 7, 8, 9, 10, 11, 12, 13, 14, 15, 16] φ ψ → Q none ψ x) : hw sc d 65 0 [(0, (2, 5)), (1, (2, 31))] [] φ x Q := by
  apply sf_65_5_31_v
  have i1 : Inv (hf_cp φ 32 6 5) := iv_cp hI (by decide) (by decide +kernel)
  have r1 : Fr [6, 7, 8, 9, 10, 11, 12, 13, 14, 15, 16] φ (hf_cp φ 32 6 5) := fr_cp (fr_rf) (by decide)
  have i2 : Inv (hf_cp (hf_cp φ 32 6 5) 33 7 40) := iv_cp i1 (by decide) (by decide +kernel)
  have r2 : Fr [6, 7, 8, 9, 10, 11, 12, 13, 14, 15, 16] φ (hf_cp (hf_cp φ 32 6 5) 33 7 40) := fr_cp r1 (by decide)
  have i3 : Inv (hf_cp (hf_cp (hf_cp φ 32 6 5) 33 7 40) 34 8 3) := iv_cp i2 (by decide) (by decide +kernel)
  have r3 : Fr [6, 7, 8, 9, 10, 11, 12, 13, 14, 15, 16] φ (hf_cp (hf_cp (hf_cp φ 32 6 5) 33 7 40) 34 8 3) := fr_cp r2 (by decide)
  have i4 : Inv (hf_cp (hf_cp (hf_cp (hf_cp φ 32 6 5) 33 7 40) 34 8 3) 35 9 3) := iv_cp i3 (by decide) (by decide +kernel)
  have r4 : Fr [6, 7, 8, 9, 10, 11, 12, 13, 14, 15, 16] φ (hf_cp (hf_cp (hf_cp (hf_cp φ 32 6 5) 33 7 40) 34 8 3) 35 9 3) := fr_cp r3 (by decide)
  have i5 : Inv (hf_cp (hf_cp (hf_cp (hf_cp (hf_cp φ 32 6 5) 33 7 40) 34 8 3) 35 9 3) 36 10 8) := iv_cp i4 (by decide) (by decide +kernel)
  have r5 : Fr [6, 7, 8, 9, 10, 11, 12, 13, 14, 15, 16] φ (hf_cp (hf_cp (hf_cp (hf_cp (hf_cp φ 32 6 5) 33 7 40) 34 8 3) 35 9 3) 36 10 8) := fr_cp r4 (by decide)
  have i6 : Inv (hf_cp (hf_cp (hf_cp (hf_cp (hf_cp (hf_cp φ 32 6 5) 33 7 40) 34 8 3) 35 9 3) 36 10 8) 37 11 8) := iv_cp i5 (by decide) (by decide +kernel)
  have r6 : Fr [6, 7, 8, 9, 10, 11, 12, 13, 14, 15, 16] φ (hf_cp (hf_cp (hf_cp (hf_cp (hf_cp (hf_cp φ 32 6 5) 33 7 40) 34 8 3) 35 9 3) 36 10 8) 37 11 8) := fr_cp r5 (by decide)
  have i7 : Inv (hf_cp (hf_cp (hf_cp (hf_cp (hf_cp (hf_cp (hf_cp φ 32 6 5) 33 7 40) 34 8 3) 35 9 3) 36 10 8) 37 11 8) 38 12 8) := iv_cp i6 (by decide) (by decide +kernel)
  have r7 : Fr [6, 7, 8, 9, 10, 11, 12, 13, 14, 15, 16] φ (hf_cp (hf_cp (hf_cp (hf_cp (hf_cp (hf_cp (hf_cp φ 32 6 5) 33 7 40) 34 8 3) 35 9 3) 36 10 8) 37 11 8) 38 12 8) := fr_cp r6 (by decide)
  have i8 : Inv (hf_cp (hf_cp (hf_cp (hf_cp (hf_cp (hf_cp (hf_cp (hf_cp φ 32 6 5) 33 7 40) 34 8 3) 35 9 3) 36 10 8) 37 11 8) 38 12 8) 39 13 8) := iv_cp i7 (by decide) (by decide +kernel)
  have r8 : Fr [6, 7, 8, 9, 10, 11, 12, 13, 14, 15, 16] φ (hf_cp (hf_cp (hf_cp (hf_cp (hf_cp (hf_cp (hf_cp (hf_cp φ 32 6 5) 33 7 40) 34 8 3) 35 9 3) 36 10 8) 37 11 8) 38 12 8) 39 13 8) := fr_cp r7 (by decide)
  have i9 : Inv (hf_cp (hf_cp (hf_cp (hf_cp (hf_cp (hf_cp (hf_cp (hf_cp (hf_cp φ 32 6 5) 33 7 40) 34 8 3) 35 9 3) 36 10 8) 37 11 8) 38 12 8) 39 13 8) 40 14 8) := iv_cp i8 (by decide) (by decide +kernel)
  have r9 : Fr [6, 7, 8, 9, 10, 11, 12, 13, 14, 15, 16] φ (hf_cp (hf_cp (hf_cp (hf_cp (hf_cp (hf_cp (hf_cp (hf_cp (hf_cp φ 32 6 5) 33 7 40) 34 8 3) 35 9 3) 36 10 8) 37 11 8) 38 12 8) 39 13 8) 40 14 8) := fr_cp r8 (by decide)
  have i10 : Inv (hf_cp (hf_cp (hf_cp (hf_cp (hf_cp (hf_cp (hf_cp (hf_cp (hf_cp (hf_cp φ 32 6 5) 33 7 40) 34 8 3) 35 9 3) 36 10 8) 37 11 8) 38 12 8) 39 13 8) 40 14 8) 41 15 8) := iv_cp i9 (by decide) (by decide +kernel)
  have r10 : Fr [6, 7, 8, 9, 10, 11, 12, 13, 14, 15, 16] φ (hf_cp (hf_cp (hf_cp (hf_cp (hf_cp (hf_cp (hf_cp (hf_cp (hf_cp (hf_cp φ 32 6 5) 33 7 40) 34 8 3) 35 9 3) 36 10 8) 37 11 8) 38 12 8) 39 13 8) 40 14 8) 41 15 8) := fr_cp r9 (by decide)
  have i11 : Inv (hf_cp (hf_cp (hf_cp (hf_cp (hf_cp (hf_cp (hf_cp (hf_cp (hf_cp (hf_cp (hf_cp φ 32 6 5) 33 7 40) 34 8 3) 35 9 3) 36 10 8) 37 11 8) 38 12 8) 39 13 8) 40 14 8) 41 15 8) 42 16 64) := iv_cp i10 (by decide) (by decide +kernel)
  have r11 : Fr [6, 7, 8, 9, 10, 11, 12, 13, 14, 15, 16] φ (hf_cp (hf_cp (hf_cp (hf_cp (hf_cp (hf_cp (hf_cp (hf_cp (hf_cp (hf_cp (hf_cp φ 32 6 5) 33 7 40) 34 8 3) 35 9 3) 36 10 8) 37 11 8) 38 12 8) 39 13 8) 40 14 8) 41 15 8) 42 16 64) := fr_cp r10 (by decide)
  exact hQ (hf_cp (hf_cp (hf_cp (hf_cp (hf_cp (hf_cp (hf_cp (hf_cp (hf_cp (hf_cp (hf_cp φ 32 6 5) 33 7 40) 34 8 3) 35 9 3) 36 10 8) 37 11 8) 38 12 8) 39 13 8) 40 14 8) 41 15 8) 42 16 64) i11 r11
theorem sf_67_26_52_v {sc : List Int} {d : Nat} {φ : hf_F} {x : Nat} {Q : Option jm_V → hf_F → Nat → Prop} 
    (H : ((φ 52 5) = 0 ∨ (φ 52 5) = 1) ∧ (Q none (hf_up (hf_up (hf_up (hf_cp (hf_cp (hf_cp φ 53 27 40) 54 28 40) 55 29 40) 26 3 (φ 52 3)) 26 4 (φ 52 4)) 26 5 (φ 52 5)) x)) :
    hw sc d 67 0 [(0, (2, 26)), (1, (2, 52))] [] φ x Q := by
  refine hw_ald (b := 1) (e := 0) (by decide +kernel) rfl (by decide) ?_
  refine hr_gr (w := 53) (b := 5) (e := 0) 52 rfl (by decide +kernel) ?_
  refine hw_k (c := 0) (b := 0) (e := 1) (by decide +kernel) ?_
  refine hw_ald (b := 0) (e := 0) (by decide +kernel) rfl (by decide) ?_
  refine hr_gr (w := 27) (b := 5) (e := 0) 26 rfl (by decide +kernel) ?_
  refine hw_k (c := 0) (b := 0) (e := 1) (by decide +kernel) ?_
  refine hw_k (c := 40) (b := 1) (e := 2) (by decide +kernel) ?_
  refine hr_cp (a0 := 0) (b0 := 0) (e := 0) 53 27 40 rfl rfl rfl (by decide +kernel) (Nat.le_of_ble_eq_true rfl) ?_
  refine hw_ald (b := 1) (e := 0) (by decide +kernel) rfl (by decide) ?_
  refine hr_gr (w := 54) (b := 5) (e := 1) 52 rfl (by decide +kernel) ?_
  refine hw_k (c := 0) (b := 0) (e := 1) (by decide +kernel) ?_
  refine hw_ald (b := 0) (e := 0) (by decide +kernel) rfl (by decide) ?_
  refine hr_gr (w := 28) (b := 5) (e := 1) 26 rfl (by decide +kernel) ?_
  refine hw_k (c := 0) (b := 0) (e := 1) (by decide +kernel) ?_
  refine hw_k (c := 40) (b := 1) (e := 2) (by decide +kernel) ?_
  refine hr_cp (a0 := 0) (b0 := 0) (e := 0) 54 28 40 rfl rfl rfl (by decide +kernel) (Nat.le_of_ble_eq_true rfl) ?_
  refine hw_ald (b := 1) (e := 0) (by decide +kernel) rfl (by decide) ?_
  refine hr_gr (w := 55) (b := 5) (e := 2) 52 rfl (by decide +kernel) ?_
  refine hw_k (c := 0) (b := 0) (e := 1) (by decide +kernel) ?_
  refine hw_ald (b := 0) (e := 0) (by decide +kernel) rfl (by decide) ?_
  refine hr_gr (w := 29) (b := 5) (e := 2) 26 rfl (by decide +kernel) ?_
  refine hw_k (c := 0) (b := 0) (e := 1) (by decide +kernel) ?_
  refine hw_k (c := 40) (b := 1) (e := 2) (by decide +kernel) ?_
  refine hr_cp (a0 := 0) (b0 := 0) (e := 0) 55 29 40 rfl rfl rfl (by decide +kernel) (Nat.le_of_ble_eq_true rfl) ?_
  refine hw_ald (b := 0) (e := 0) (by decide +kernel) rfl (by decide) ?_
  refine hw_ald (b := 1) (e := 0) (by decide +kernel) rfl (by decide) ?_
  refine hr_gi (w := φ 52 3) (b := 5) (e := 3) 52 rfl (by decide +kernel) ((hf_cp_ne (fun q => absurd q.1 (by decide))).trans ((hf_cp_ne (fun q => absurd q.1 (by decide))).trans (hf_cp_ne (fun q => absurd q.1 (by decide))))) ?_
  refine hr_pi (b := 5) (e := 3) 26 rfl (by decide +kernel) ?_
  refine hw_ald (b := 0) (e := 0) (by decide +kernel) rfl (by decide) ?_
  refine hw_ald (b := 1) (e := 0) (by decide +kernel) rfl (by decide) ?_
  refine hr_gi (w := φ 52 4) (b := 5) (e := 4) 52 rfl (by decide +kernel) ((hf_up_ne (fun q => absurd q.1 (by decide))).trans ((hf_cp_ne (fun q => absurd q.1 (by decide))).trans ((hf_cp_ne (fun q => absurd q.1 (by decide))).trans (hf_cp_ne (fun q => absurd q.1 (by decide)))))) ?_
  refine hr_pi (b := 5) (e := 4) 26 rfl (by decide +kernel) ?_
  refine hw_ald (b := 0) (e := 0) (by decide +kernel) rfl (by decide) ?_
  refine hw_ald (b := 1) (e := 0) (by decide +kernel) rfl (by decide) ?_
  refine hr_gz (w := φ 52 5) (b := 5) (e := 5) 52 rfl (by decide +kernel) ((hf_up_ne (fun q => absurd q.1 (by decide))).trans ((hf_up_ne (fun q => absurd q.1 (by decide))).trans ((hf_cp_ne (fun q => absurd q.1 (by decide))).trans ((hf_cp_ne (fun q => absurd q.1 (by decide))).trans (hf_cp_ne (fun q => absurd q.1 (by decide))))))) ?_
  obtain ⟨h01_1, H⟩ := H
  refine hr_pz (b := 5) (e := 5) 26 rfl (by decide +kernel) h01_1 ?_
  exact hw_vret (a0 := 0) (e := 0) (by decide +kernel) H
theorem sf_67_26_52 {sc : List Int} {d : Nat} {φ : hf_F} {x : Nat} {Q : Option jm_V → hf_F → Nat → Prop}  (hI : Inv φ)  (hQ : ∀ ψ : hf_F, Inv ψ → Fr [26, 27, 28, 29] φ ψ → Q none ψ x) : hw sc d 67 0 [(0, (2, 26)), (1, (2, 52))] [] φ x Q := by
  apply sf_67_26_52_v
  have i1 : Inv (hf_cp φ 53 27 40) := iv_cp hI (by decide) (by decide +kernel)
  have r1 : Fr [26, 27, 28, 29] φ (hf_cp φ 53 27 40) := fr_cp (fr_rf) (by decide)
  have i2 : Inv (hf_cp (hf_cp φ 53 27 40) 54 28 40) := iv_cp i1 (by decide) (by decide +kernel)
  have r2 : Fr [26, 27, 28, 29] φ (hf_cp (hf_cp φ 53 27 40) 54 28 40) := fr_cp r1 (by decide)
  have i3 : Inv (hf_cp (hf_cp (hf_cp φ 53 27 40) 54 28 40) 55 29 40) := iv_cp i2 (by decide) (by decide +kernel)
  have r3 : Fr [26, 27, 28, 29] φ (hf_cp (hf_cp (hf_cp φ 53 27 40) 54 28 40) 55 29 40) := fr_cp r2 (by decide)
  have f4 := iv_at (a := 52) (k := 3) (lo := 0) (u := 40) hI (by decide +kernel)
  have i5 : Inv (hf_up (hf_cp (hf_cp (hf_cp φ 53 27 40) 54 28 40) 55 29 40) 26 3 (φ 52 3)) := iv_up (lo := 0) (u := 40) i3 (by decide +kernel) (by omega) (by omega)
  have r5 : Fr [26, 27, 28, 29] φ (hf_up (hf_cp (hf_cp (hf_cp φ 53 27 40) 54 28 40) 55 29 40) 26 3 (φ 52 3)) := fr_up r3 (by decide)
  have f6 := iv_at (a := 52) (k := 4) (lo := 0) (u := 20) hI (by decide +kernel)
  have i7 : Inv (hf_up (hf_up (hf_cp (hf_cp (hf_cp φ 53 27 40) 54 28 40) 55 29 40) 26 3 (φ 52 3)) 26 4 (φ 52 4)) := iv_up (lo := 0) (u := 20) i5 (by decide +kernel) (by omega) (by omega)
  have r7 : Fr [26, 27, 28, 29] φ (hf_up (hf_up (hf_cp (hf_cp (hf_cp φ 53 27 40) 54 28 40) 55 29 40) 26 3 (φ 52 3)) 26 4 (φ 52 4)) := fr_up r5 (by decide)
  have f8 := iv_at (a := 52) (k := 5) (lo := 0) (u := 1) hI (by decide +kernel)
  refine ⟨by omega, ?_⟩
  have i9 : Inv (hf_up (hf_up (hf_up (hf_cp (hf_cp (hf_cp φ 53 27 40) 54 28 40) 55 29 40) 26 3 (φ 52 3)) 26 4 (φ 52 4)) 26 5 (φ 52 5)) := iv_up (lo := 0) (u := 1) i7 (by decide +kernel) (by omega) (by omega)
  have r9 : Fr [26, 27, 28, 29] φ (hf_up (hf_up (hf_up (hf_cp (hf_cp (hf_cp φ 53 27 40) 54 28 40) 55 29 40) 26 3 (φ 52 3)) 26 4 (φ 52 4)) 26 5 (φ 52 5)) := fr_up r7 (by decide)
  exact hQ (hf_up (hf_up (hf_up (hf_cp (hf_cp (hf_cp φ 53 27 40) 54 28 40) 55 29 40) 26 3 (φ 52 3)) 26 4 (φ 52 4)) 26 5 (φ 52 5)) i9 r9
theorem sf_42_31_v3 {sc : List Int} {d : Nat} {φ : hf_F} {x : Nat} {Q : Option jm_V → hf_F → Nat → Prop} {L : jm_L} {l1 l2 l4 : Int} (g0 : jm_get L 0 = some (2, 31)) (g1 : jm_get L 1 = some (0, l1)) (g2 : jm_get L 2 = some (1, l2)) (g4 : jm_get L 4 = some (0, l4))
    (H : 0 ≤ l1 ∧ l1 < 5 ∧ (hi l4 ∧ hi (φ 32 ((l1).toNat)) ∧ ((φ 32 ((l1).toNat)) ≤ l4 → Q (some (0, (-1 : Int))) φ x) ∧ (¬ (φ 32 ((l1).toNat)) ≤ l4 → 0 ≤ ((l1 * 8) + l4) ∧ ((l1 * 8) + l4) < 40 ∧ (hi (jm_cmp (φ 33 (((l1 * 8) + l4).toNat)) l2) ∧ (¬ (jm_cmp (φ 33 (((l1 * 8) + l4).toNat)) l2) = 0 → hw sc d 42 3 (jm_st1 L 4 (0, l4 + 1)) [] φ x Q) ∧ (¬ (¬ (jm_cmp (φ 33 (((l1 * 8) + l4).toNat)) l2) = 0) → Q (some (0, l4)) φ x))))) :
    hw sc d 42 3 L [] φ x Q := by
  refine hw_ld (b := 4) (e := 1) (by decide +kernel) g4 ?_
  refine hw_ald (b := 0) (e := 0) (by decide +kernel) g0 (by decide) ?_
  refine hr_gr (w := 32) (b := 3) (e := 0) 31 rfl (by decide +kernel) ?_
  refine hw_ld (b := 1) (e := 0) (by decide +kernel) g1 ?_
  obtain ⟨hl1, hu1, H⟩ := H
  refine hr_al (b := 0) (a0 := 0) (e := 0) (n := 5) (w := φ 32 ((l1).toNat)) 32 rfl (by decide +kernel) (by decide) hl1 hu1 rfl ?_
  obtain ⟨hz2, hy2, ht2, hf2⟩ := H
  refine hw_if2 (a0 := 0) (b := 3) (e := 40) (by decide +kernel) hz2 hy2 (fun q => ?_) (fun q => ?_)
  · have H := ht2 q
    refine hw_k (c := (-1 : Int)) (b := 0) (e := 1) (by decide +kernel) ?_
    exact hw_ret (a0 := 0) (e := 0) (by decide +kernel) (Or.inl rfl) H
  · have H := hf2 q
    refine hw_ald (b := 0) (e := 0) (by decide +kernel) g0 (by decide) ?_
    refine hr_gr (w := 33) (b := 3) (e := 1) 31 rfl (by decide +kernel) ?_
    refine hw_ld (b := 1) (e := 0) (by decide +kernel) g1 ?_
    refine hw_k (c := 8) (b := 1) (e := 2) (by decide +kernel) ?_
    refine hw_bin (w := l1 * 8) (a0 := 0) (b := 2) (e := 0) (by decide +kernel) rfl ?_
    refine hw_ld (b := 4) (e := 1) (by decide +kernel) g4 ?_
    refine hw_bin (w := (l1 * 8) + l4) (a0 := 0) (b := 0) (e := 0) (by decide +kernel) rfl ?_
    obtain ⟨hl4, hu4, H⟩ := H
    refine hr_all (a0 := 0) (e := 0) (n := 40) (w := φ 33 (((l1 * 8) + l4).toNat)) 33 rfl (by decide +kernel) hl4 hu4 rfl ?_
    refine hw_lld (b := 2) (e := 0) (by decide +kernel) g2 ?_
    refine hw_lcmp (w := jm_cmp (φ 33 (((l1 * 8) + l4).toNat)) l2) (a0 := 0) (b := 0) (e := 0) (by decide +kernel) rfl ?_
    obtain ⟨hz5, ht5, hf5⟩ := H
    refine hw_if (a0 := 0) (b := 1) (e := 34) (by decide +kernel) hz5 (fun q => ?_) (fun q => ?_)
    · have H := ht5 q
      refine hw_inc (L' := (jm_st1 L 4 (0, l4 + 1))) (c := 1) (b := 4) (e := 0) (by decide +kernel) g4 rfl ?_
      refine hw_goto (a0 := 0) (b := 0) (e := 3) (by decide +kernel) ?_
      exact H
    · have H := hf5 q
      refine hw_ld (b := 4) (e := 1) (by decide +kernel) g4 ?_
      exact hw_ret (a0 := 0) (e := 0) (by decide +kernel) (Or.inl rfl) H
theorem sf_42_31_l3 {sc : List Int} {d x : Nat} {Q : Option jm_V → hf_F → Nat → Prop} : ∀ (n : Nat) (φ : hf_F) (L : jm_L) (l1 l2 l4 : Int), jm_get L 0 = some (2, 31) → jm_get L 1 = some (0, l1) → jm_get L 2 = some (1, l2) → jm_get L 4 = some (0, l4) → Inv φ → 8 - l4 < (n : Int) → 0 ≤ l1 → l1 ≤ 4 → 0 ≤ l4 → l4 ≤ 8 → (∀ (r : Int) (ψ : hf_F), Inv ψ → Fr [] φ ψ → (-1 : Int) ≤ r ∧ r ≤ 7 → Q (some (0, r)) ψ x) → hw sc d 42 3 L [] φ x Q := by
  intro n
  induction n with
  | zero =>
    intro φ L l1 l2 l4 g0 g1 g2 g4 hI hM b1a b1b b4a b4b hQ
    exfalso
    omega
  | succ n ih =>
    intro φ L l1 l2 l4 g0 g1 g2 g4 hI hM b1a b1b b4a b4b hQ
    refine sf_42_31_v3 g0 g1 g2 g4 ?_
    refine ⟨by omega, by omega, ?_⟩
    have f1 := iv_arh (a := 32) (s := 0) (t := 5) (lo := 0) (u := 8) (z := l1) hI (by decide +kernel) (by omega) (by omega)
    refine ⟨by unfold hi; omega, by unfold hi; omega, fun q2 => ?_, fun q2 => ?_⟩
    · skip
      exact hQ (-1 : Int) φ hI (fr_rf) ⟨by omega, by omega⟩
    · skip
      refine ⟨by omega, by omega, ?_⟩
      have f2 := hr_cmp (φ 33 (((l1 * 8) + l4).toNat)) l2
      refine ⟨by unfold hi; omega, fun q5 => ?_, fun q5 => ?_⟩
      · skip
        exact ih φ (jm_st1 L 4 (0, l4 + 1)) l1 l2 (l4 + 1) (get_st1 g0 (by decide) (fun q => absurd q.1 (by decide))) (get_st1 g1 (by decide) (fun q => absurd q.1 (by decide))) (get_st1 g2 (by decide) (fun q => absurd q.1 (by decide))) get_st1e hI (by omega) (by omega) (by omega) (by omega) (by omega) (fun rr χ hIχ hFχ hpχ => hQ rr χ hIχ (fr_tr (fr_rf) hFχ (by decide)) hpχ)
      · skip
        exact hQ l4 φ hI (fr_rf) ⟨by omega, by omega⟩
theorem sf_42_31_v {sc : List Int} {d : Nat} {φ : hf_F} {x : Nat} {Q : Option jm_V → hf_F → Nat → Prop} {v1 v2 : Int}
    (H : hw sc d 42 3 (jm_st1 [(0, (2, 31)), (1, (0, v1)), (2, (1, v2))] 4 (0, 0)) [] φ x Q) :
    hw sc d 42 0 [(0, (2, 31)), (1, (0, v1)), (2, (1, v2))] [] φ x Q := by
  refine hw_k (c := 0) (b := 0) (e := 1) (by decide +kernel) ?_
  refine hw_st (L' := (jm_st1 [(0, (2, 31)), (1, (0, v1)), (2, (1, v2))] 4 (0, 0))) (b := 4) (e := 1) (by decide +kernel) rfl ?_
  exact H
theorem sf_42_31 {sc : List Int} {d : Nat} {φ : hf_F} {x : Nat} {Q : Option jm_V → hf_F → Nat → Prop} {v1 v2 : Int} (hI : Inv φ) (h1a : 0 ≤ v1) (h1b : v1 ≤ 4) (hQ : ∀ (r : Int) (ψ : hf_F), Inv ψ → Fr [] φ ψ → (-1 : Int) ≤ r ∧ r ≤ 7 → Q (some (0, r)) ψ x) : hw sc d 42 0 [(0, (2, 31)), (1, (0, v1)), (2, (1, v2))] [] φ x Q := by
  apply sf_42_31_v
  exact sf_42_31_l3 ((8 - 0 : Int).toNat + 1) φ (jm_st1 [(0, (2, 31)), (1, (0, v1)), (2, (1, v2))] 4 (0, 0)) v1 v2 0 (get_st1 rfl (by decide) (fun q => absurd q.1 (by decide))) (get_st1 rfl (by decide) (fun q => absurd q.1 (by decide))) (get_st1 rfl (by decide) (fun q => absurd q.1 (by decide))) get_st1e hI (by omega) (by omega) (by omega) (by omega) (by omega) (fun rr χ hIχ hFχ hpχ => hQ rr χ hIχ (fr_tr (fr_rf) hFχ (by decide)) hpχ)
theorem sf_12_45_k1_m1_v5 {sc : List Int} {d : Nat} {φ : hf_F} {x : Nat} {Q : Option jm_V → hf_F → Nat → Prop} {L : jm_L} {l2 : Int} (g0 : jm_get L 0 = some (2, 45)) (g1 : jm_get L 1 = some (0, (-1 : Int))) (g2 : jm_get L 2 = some (0, l2)) (g3 : jm_get L 3 = some (0, 8))
    (H : hi l2 ∧ hi 8 ∧ (8 ≤ l2 → Q none φ x) ∧ (¬ 8 ≤ l2 → 0 ≤ l2 ∧ l2 < 8 ∧ (hw sc d 12 5 (jm_st1 L 2 (0, l2 + 1)) [] (hf_up φ 45 ((l2).toNat) (-1 : Int)) x Q))) :
    hw sc d 12 5 L [] φ x Q := by
  refine hw_ld (b := 2) (e := 0) (by decide +kernel) g2 ?_
  refine hw_ld (b := 3) (e := 0) (by decide +kernel) g3 ?_
  obtain ⟨hz1, hy1, ht1, hf1⟩ := H
  refine hw_if2 (a0 := 0) (b := 3) (e := 20) (by decide +kernel) hz1 hy1 (fun q => ?_) (fun q => ?_)
  · have H := ht1 q
    exact hw_vret (a0 := 0) (e := 0) (by decide +kernel) H
  · have H := hf1 q
    refine hw_ald (b := 0) (e := 0) (by decide +kernel) g0 (by decide) ?_
    refine hw_ld (b := 2) (e := 0) (by decide +kernel) g2 ?_
    refine hw_ld (b := 1) (e := 0) (by decide +kernel) g1 ?_
    obtain ⟨hl3, hu3, H⟩ := H
    refine hr_as (a0 := 0) (e := 4) (n := 8) 45 rfl (by decide +kernel) hl3 hu3 ?_
    refine hw_inc (L' := (jm_st1 L 2 (0, l2 + 1))) (c := 1) (b := 2) (e := 0) (by decide +kernel) g2 rfl ?_
    refine hw_goto (a0 := 0) (b := 0) (e := 5) (by decide +kernel) ?_
    exact H
theorem sf_12_45_k1_m1_l5 {sc : List Int} {d x : Nat} {Q : Option jm_V → hf_F → Nat → Prop} : ∀ (n : Nat) (φ : hf_F) (L : jm_L) (l2 : Int), jm_get L 0 = some (2, 45) → jm_get L 1 = some (0, (-1 : Int)) → jm_get L 2 = some (0, l2) → jm_get L 3 = some (0, 8) → Inv φ → 8 - l2 < (n : Int) → 0 ≤ l2 → l2 ≤ 8 → (∀ ψ : hf_F, Inv ψ → Fr [45] φ ψ → Q none ψ x) → hw sc d 12 5 L [] φ x Q := by
  intro n
  induction n with
  | zero =>
    intro φ L l2 g0 g1 g2 g3 hI hM b2a b2b hQ
    exfalso
    omega
  | succ n ih =>
    intro φ L l2 g0 g1 g2 g3 hI hM b2a b2b hQ
    refine sf_12_45_k1_m1_v5 g0 g1 g2 g3 ?_
    refine ⟨by unfold hi; omega, by unfold hi; omega, fun q1 => ?_, fun q1 => ?_⟩
    · skip
      exact hQ φ hI (fr_rf)
    · skip
      refine ⟨by omega, by omega, ?_⟩
      have i1 : Inv (hf_up φ 45 ((l2).toNat) (-1 : Int)) := iv_upI (s := 0) (t := 8) (lo := (-1 : Int)) (u := 5) (z := l2) hI (by decide +kernel) (by omega) (by omega) (by omega) (by omega)
      have r1 : Fr [45] φ (hf_up φ 45 ((l2).toNat) (-1 : Int)) := fr_up (fr_rf) (by decide)
      exact ih (hf_up φ 45 ((l2).toNat) (-1 : Int)) (jm_st1 L 2 (0, l2 + 1)) (l2 + 1) (get_st1 g0 (by decide) (fun q => absurd q.1 (by decide))) (get_st1 g1 (by decide) (fun q => tg0 q.2)) get_st1e (get_st1 g3 (by decide) (fun q => absurd q.1 (by decide))) i1 (by omega) (by omega) (by omega) (fun χ hIχ hFχ => hQ χ hIχ (fr_tr r1 hFχ (by decide)))
theorem sf_12_45_k1_m1_v {sc : List Int} {d : Nat} {φ : hf_F} {x : Nat} {Q : Option jm_V → hf_F → Nat → Prop} 
    (H : hw sc d 12 5 (jm_st1 (jm_st1 [(0, (2, 45)), (1, (0, (-1 : Int)))] 2 (0, 0)) 3 (0, 8)) [] φ x Q) :
    hw sc d 12 0 [(0, (2, 45)), (1, (0, (-1 : Int)))] [] φ x Q := by
  refine hw_k (c := 0) (b := 0) (e := 1) (by decide +kernel) ?_
  refine hw_st (L' := (jm_st1 [(0, (2, 45)), (1, (0, (-1 : Int)))] 2 (0, 0))) (b := 2) (e := 0) (by decide +kernel) rfl ?_
  refine hw_ald (b := 0) (e := 0) (by decide +kernel) (get_st1 rfl (by decide) (fun q => absurd q.1 (by decide))) (by decide) ?_
  refine hr_len (n := 8) (a0 := 0) (b := 0) (e := 0) 45 rfl (by decide +kernel) ?_
  refine hw_st (L' := (jm_st1 (jm_st1 [(0, (2, 45)), (1, (0, (-1 : Int)))] 2 (0, 0)) 3 (0, 8))) (b := 3) (e := 0) (by decide +kernel) rfl ?_
  exact H
theorem sf_12_45_k1_m1 {sc : List Int} {d : Nat} {φ : hf_F} {x : Nat} {Q : Option jm_V → hf_F → Nat → Prop}  (hI : Inv φ)  (hQ : ∀ ψ : hf_F, Inv ψ → Fr [45] φ ψ → Q none ψ x) : hw sc d 12 0 [(0, (2, 45)), (1, (0, (-1 : Int)))] [] φ x Q := by
  apply sf_12_45_k1_m1_v
  exact sf_12_45_k1_m1_l5 ((8 - 0 : Int).toNat + 1) φ (jm_st1 (jm_st1 [(0, (2, 45)), (1, (0, (-1 : Int)))] 2 (0, 0)) 3 (0, 8)) 0 (get_st1 (get_st1 rfl (by decide) (fun q => absurd q.1 (by decide))) (by decide) (fun q => absurd q.1 (by decide))) (get_st1 (get_st1 rfl (by decide) (fun q => tg0 q.2)) (by decide) (fun q => absurd q.1 (by decide))) (get_st1 get_st1e (by decide) (fun q => tg0 q.2)) get_st1e hI (by omega) (by omega) (by omega) (fun χ hIχ hFχ => hQ χ hIχ (fr_tr (fr_rf) hFχ (by decide)))
theorem sf_12_46_k1_m1_v5 {sc : List Int} {d : Nat} {φ : hf_F} {x : Nat} {Q : Option jm_V → hf_F → Nat → Prop} {L : jm_L} {l2 : Int} (g0 : jm_get L 0 = some (2, 46)) (g1 : jm_get L 1 = some (0, (-1 : Int))) (g2 : jm_get L 2 = some (0, l2)) (g3 : jm_get L 3 = some (0, 6))
    (H : hi l2 ∧ hi 6 ∧ (6 ≤ l2 → Q none φ x) ∧ (¬ 6 ≤ l2 → 0 ≤ l2 ∧ l2 < 6 ∧ (hw sc d 12 5 (jm_st1 L 2 (0, l2 + 1)) [] (hf_up φ 46 ((l2).toNat) (-1 : Int)) x Q))) :
    hw sc d 12 5 L [] φ x Q := by
  refine hw_ld (b := 2) (e := 0) (by decide +kernel) g2 ?_
  refine hw_ld (b := 3) (e := 0) (by decide +kernel) g3 ?_
  obtain ⟨hz1, hy1, ht1, hf1⟩ := H
  refine hw_if2 (a0 := 0) (b := 3) (e := 20) (by decide +kernel) hz1 hy1 (fun q => ?_) (fun q => ?_)
  · have H := ht1 q
    exact hw_vret (a0 := 0) (e := 0) (by decide +kernel) H
  · have H := hf1 q
    refine hw_ald (b := 0) (e := 0) (by decide +kernel) g0 (by decide) ?_
    refine hw_ld (b := 2) (e := 0) (by decide +kernel) g2 ?_
    refine hw_ld (b := 1) (e := 0) (by decide +kernel) g1 ?_
    obtain ⟨hl3, hu3, H⟩ := H
    refine hr_as (a0 := 0) (e := 4) (n := 6) 46 rfl (by decide +kernel) hl3 hu3 ?_
    refine hw_inc (L' := (jm_st1 L 2 (0, l2 + 1))) (c := 1) (b := 2) (e := 0) (by decide +kernel) g2 rfl ?_
    refine hw_goto (a0 := 0) (b := 0) (e := 5) (by decide +kernel) ?_
    exact H
theorem sf_12_46_k1_m1_l5 {sc : List Int} {d x : Nat} {Q : Option jm_V → hf_F → Nat → Prop} : ∀ (n : Nat) (φ : hf_F) (L : jm_L) (l2 : Int), jm_get L 0 = some (2, 46) → jm_get L 1 = some (0, (-1 : Int)) → jm_get L 2 = some (0, l2) → jm_get L 3 = some (0, 6) → Inv φ → 6 - l2 < (n : Int) → 0 ≤ l2 → l2 ≤ 6 → (∀ ψ : hf_F, Inv ψ → Fr [46] φ ψ → Q none ψ x) → hw sc d 12 5 L [] φ x Q := by
  intro n
  induction n with
  | zero =>
    intro φ L l2 g0 g1 g2 g3 hI hM b2a b2b hQ
    exfalso
    omega
  | succ n ih =>
    intro φ L l2 g0 g1 g2 g3 hI hM b2a b2b hQ
    refine sf_12_46_k1_m1_v5 g0 g1 g2 g3 ?_
    refine ⟨by unfold hi; omega, by unfold hi; omega, fun q1 => ?_, fun q1 => ?_⟩
    · skip
      exact hQ φ hI (fr_rf)
    · skip
      refine ⟨by omega, by omega, ?_⟩
      have i1 : Inv (hf_up φ 46 ((l2).toNat) (-1 : Int)) := iv_upI (s := 0) (t := 6) (lo := (-1 : Int)) (u := 7) (z := l2) hI (by decide +kernel) (by omega) (by omega) (by omega) (by omega)
      have r1 : Fr [46] φ (hf_up φ 46 ((l2).toNat) (-1 : Int)) := fr_up (fr_rf) (by decide)
      exact ih (hf_up φ 46 ((l2).toNat) (-1 : Int)) (jm_st1 L 2 (0, l2 + 1)) (l2 + 1) (get_st1 g0 (by decide) (fun q => absurd q.1 (by decide))) (get_st1 g1 (by decide) (fun q => tg0 q.2)) get_st1e (get_st1 g3 (by decide) (fun q => absurd q.1 (by decide))) i1 (by omega) (by omega) (by omega) (fun χ hIχ hFχ => hQ χ hIχ (fr_tr r1 hFχ (by decide)))
theorem sf_12_46_k1_m1_v {sc : List Int} {d : Nat} {φ : hf_F} {x : Nat} {Q : Option jm_V → hf_F → Nat → Prop} 
    (H : hw sc d 12 5 (jm_st1 (jm_st1 [(0, (2, 46)), (1, (0, (-1 : Int)))] 2 (0, 0)) 3 (0, 6)) [] φ x Q) :
    hw sc d 12 0 [(0, (2, 46)), (1, (0, (-1 : Int)))] [] φ x Q := by
  refine hw_k (c := 0) (b := 0) (e := 1) (by decide +kernel) ?_
  refine hw_st (L' := (jm_st1 [(0, (2, 46)), (1, (0, (-1 : Int)))] 2 (0, 0))) (b := 2) (e := 0) (by decide +kernel) rfl ?_
  refine hw_ald (b := 0) (e := 0) (by decide +kernel) (get_st1 rfl (by decide) (fun q => absurd q.1 (by decide))) (by decide) ?_
  refine hr_len (n := 6) (a0 := 0) (b := 0) (e := 0) 46 rfl (by decide +kernel) ?_
  refine hw_st (L' := (jm_st1 (jm_st1 [(0, (2, 46)), (1, (0, (-1 : Int)))] 2 (0, 0)) 3 (0, 6))) (b := 3) (e := 0) (by decide +kernel) rfl ?_
  exact H
theorem sf_12_46_k1_m1 {sc : List Int} {d : Nat} {φ : hf_F} {x : Nat} {Q : Option jm_V → hf_F → Nat → Prop}  (hI : Inv φ)  (hQ : ∀ ψ : hf_F, Inv ψ → Fr [46] φ ψ → Q none ψ x) : hw sc d 12 0 [(0, (2, 46)), (1, (0, (-1 : Int)))] [] φ x Q := by
  apply sf_12_46_k1_m1_v
  exact sf_12_46_k1_m1_l5 ((6 - 0 : Int).toNat + 1) φ (jm_st1 (jm_st1 [(0, (2, 46)), (1, (0, (-1 : Int)))] 2 (0, 0)) 3 (0, 6)) 0 (get_st1 (get_st1 rfl (by decide) (fun q => absurd q.1 (by decide))) (by decide) (fun q => absurd q.1 (by decide))) (get_st1 (get_st1 rfl (by decide) (fun q => tg0 q.2)) (by decide) (fun q => absurd q.1 (by decide))) (get_st1 get_st1e (by decide) (fun q => tg0 q.2)) get_st1e hI (by omega) (by omega) (by omega) (fun χ hIχ hFχ => hQ χ hIχ (fr_tr (fr_rf) hFχ (by decide)))
theorem sf_12_47_k1_0_v5 {sc : List Int} {d : Nat} {φ : hf_F} {x : Nat} {Q : Option jm_V → hf_F → Nat → Prop} {L : jm_L} {l2 : Int} (g0 : jm_get L 0 = some (2, 47)) (g1 : jm_get L 1 = some (0, 0)) (g2 : jm_get L 2 = some (0, l2)) (g3 : jm_get L 3 = some (0, 6))
    (H : hi l2 ∧ hi 6 ∧ (6 ≤ l2 → Q none φ x) ∧ (¬ 6 ≤ l2 → 0 ≤ l2 ∧ l2 < 6 ∧ (hw sc d 12 5 (jm_st1 L 2 (0, l2 + 1)) [] (hf_up φ 47 ((l2).toNat) 0) x Q))) :
    hw sc d 12 5 L [] φ x Q := by
  refine hw_ld (b := 2) (e := 0) (by decide +kernel) g2 ?_
  refine hw_ld (b := 3) (e := 0) (by decide +kernel) g3 ?_
  obtain ⟨hz1, hy1, ht1, hf1⟩ := H
  refine hw_if2 (a0 := 0) (b := 3) (e := 20) (by decide +kernel) hz1 hy1 (fun q => ?_) (fun q => ?_)
  · have H := ht1 q
    exact hw_vret (a0 := 0) (e := 0) (by decide +kernel) H
  · have H := hf1 q
    refine hw_ald (b := 0) (e := 0) (by decide +kernel) g0 (by decide) ?_
    refine hw_ld (b := 2) (e := 0) (by decide +kernel) g2 ?_
    refine hw_ld (b := 1) (e := 0) (by decide +kernel) g1 ?_
    obtain ⟨hl3, hu3, H⟩ := H
    refine hr_as (a0 := 0) (e := 4) (n := 6) 47 rfl (by decide +kernel) hl3 hu3 ?_
    refine hw_inc (L' := (jm_st1 L 2 (0, l2 + 1))) (c := 1) (b := 2) (e := 0) (by decide +kernel) g2 rfl ?_
    refine hw_goto (a0 := 0) (b := 0) (e := 5) (by decide +kernel) ?_
    exact H
theorem sf_12_47_k1_0_l5 {sc : List Int} {d x : Nat} {Q : Option jm_V → hf_F → Nat → Prop} : ∀ (n : Nat) (φ : hf_F) (L : jm_L) (l2 : Int), jm_get L 0 = some (2, 47) → jm_get L 1 = some (0, 0) → jm_get L 2 = some (0, l2) → jm_get L 3 = some (0, 6) → Inv φ → 6 - l2 < (n : Int) → 0 ≤ l2 → l2 ≤ 6 → (∀ ψ : hf_F, Inv ψ → Fr [47] φ ψ → Q none ψ x) → hw sc d 12 5 L [] φ x Q := by
  intro n
  induction n with
  | zero =>
    intro φ L l2 g0 g1 g2 g3 hI hM b2a b2b hQ
    exfalso
    omega
  | succ n ih =>
    intro φ L l2 g0 g1 g2 g3 hI hM b2a b2b hQ
    refine sf_12_47_k1_0_v5 g0 g1 g2 g3 ?_
    refine ⟨by unfold hi; omega, by unfold hi; omega, fun q1 => ?_, fun q1 => ?_⟩
    · skip
      exact hQ φ hI (fr_rf)
    · skip
      refine ⟨by omega, by omega, ?_⟩
      have i1 : Inv (hf_up φ 47 ((l2).toNat) 0) := iv_upI (s := 0) (t := 6) (lo := 0) (u := 6) (z := l2) hI (by decide +kernel) (by omega) (by omega) (by omega) (by omega)
      have r1 : Fr [47] φ (hf_up φ 47 ((l2).toNat) 0) := fr_up (fr_rf) (by decide)
      exact ih (hf_up φ 47 ((l2).toNat) 0) (jm_st1 L 2 (0, l2 + 1)) (l2 + 1) (get_st1 g0 (by decide) (fun q => absurd q.1 (by decide))) (get_st1 g1 (by decide) (fun q => tg0 q.2)) get_st1e (get_st1 g3 (by decide) (fun q => absurd q.1 (by decide))) i1 (by omega) (by omega) (by omega) (fun χ hIχ hFχ => hQ χ hIχ (fr_tr r1 hFχ (by decide)))
theorem sf_12_47_k1_0_v {sc : List Int} {d : Nat} {φ : hf_F} {x : Nat} {Q : Option jm_V → hf_F → Nat → Prop} 
    (H : hw sc d 12 5 (jm_st1 (jm_st1 [(0, (2, 47)), (1, (0, 0))] 2 (0, 0)) 3 (0, 6)) [] φ x Q) :
    hw sc d 12 0 [(0, (2, 47)), (1, (0, 0))] [] φ x Q := by
  refine hw_k (c := 0) (b := 0) (e := 1) (by decide +kernel) ?_
  refine hw_st (L' := (jm_st1 [(0, (2, 47)), (1, (0, 0))] 2 (0, 0))) (b := 2) (e := 0) (by decide +kernel) rfl ?_
  refine hw_ald (b := 0) (e := 0) (by decide +kernel) (get_st1 rfl (by decide) (fun q => absurd q.1 (by decide))) (by decide) ?_
  refine hr_len (n := 6) (a0 := 0) (b := 0) (e := 0) 47 rfl (by decide +kernel) ?_
  refine hw_st (L' := (jm_st1 (jm_st1 [(0, (2, 47)), (1, (0, 0))] 2 (0, 0)) 3 (0, 6))) (b := 3) (e := 0) (by decide +kernel) rfl ?_
  exact H
theorem sf_12_47_k1_0 {sc : List Int} {d : Nat} {φ : hf_F} {x : Nat} {Q : Option jm_V → hf_F → Nat → Prop}  (hI : Inv φ)  (hQ : ∀ ψ : hf_F, Inv ψ → Fr [47] φ ψ → Q none ψ x) : hw sc d 12 0 [(0, (2, 47)), (1, (0, 0))] [] φ x Q := by
  apply sf_12_47_k1_0_v
  exact sf_12_47_k1_0_l5 ((6 - 0 : Int).toNat + 1) φ (jm_st1 (jm_st1 [(0, (2, 47)), (1, (0, 0))] 2 (0, 0)) 3 (0, 6)) 0 (get_st1 (get_st1 rfl (by decide) (fun q => absurd q.1 (by decide))) (by decide) (fun q => absurd q.1 (by decide))) (get_st1 (get_st1 rfl (by decide) (fun q => tg0 q.2)) (by decide) (fun q => absurd q.1 (by decide))) (get_st1 get_st1e (by decide) (fun q => tg0 q.2)) get_st1e hI (by omega) (by omega) (by omega) (fun χ hIχ hFχ => hQ χ hIχ (fr_tr (fr_rf) hFχ (by decide)))
theorem sf_12_49_k1_0_v5 {sc : List Int} {d : Nat} {φ : hf_F} {x : Nat} {Q : Option jm_V → hf_F → Nat → Prop} {L : jm_L} {l2 : Int} (g0 : jm_get L 0 = some (2, 49)) (g1 : jm_get L 1 = some (0, 0)) (g2 : jm_get L 2 = some (0, l2)) (g3 : jm_get L 3 = some (0, 6))
    (H : hi l2 ∧ hi 6 ∧ (6 ≤ l2 → Q none φ x) ∧ (¬ 6 ≤ l2 → 0 ≤ l2 ∧ l2 < 6 ∧ (hw sc d 12 5 (jm_st1 L 2 (0, l2 + 1)) [] (hf_up φ 49 ((l2).toNat) 0) x Q))) :
    hw sc d 12 5 L [] φ x Q := by
  refine hw_ld (b := 2) (e := 0) (by decide +kernel) g2 ?_
  refine hw_ld (b := 3) (e := 0) (by decide +kernel) g3 ?_
  obtain ⟨hz1, hy1, ht1, hf1⟩ := H
  refine hw_if2 (a0 := 0) (b := 3) (e := 20) (by decide +kernel) hz1 hy1 (fun q => ?_) (fun q => ?_)
  · have H := ht1 q
    exact hw_vret (a0 := 0) (e := 0) (by decide +kernel) H
  · have H := hf1 q
    refine hw_ald (b := 0) (e := 0) (by decide +kernel) g0 (by decide) ?_
    refine hw_ld (b := 2) (e := 0) (by decide +kernel) g2 ?_
    refine hw_ld (b := 1) (e := 0) (by decide +kernel) g1 ?_
    obtain ⟨hl3, hu3, H⟩ := H
    refine hr_as (a0 := 0) (e := 4) (n := 6) 49 rfl (by decide +kernel) hl3 hu3 ?_
    refine hw_inc (L' := (jm_st1 L 2 (0, l2 + 1))) (c := 1) (b := 2) (e := 0) (by decide +kernel) g2 rfl ?_
    refine hw_goto (a0 := 0) (b := 0) (e := 5) (by decide +kernel) ?_
    exact H
theorem sf_12_49_k1_0_l5 {sc : List Int} {d x : Nat} {Q : Option jm_V → hf_F → Nat → Prop} : ∀ (n : Nat) (φ : hf_F) (L : jm_L) (l2 : Int), jm_get L 0 = some (2, 49) → jm_get L 1 = some (0, 0) → jm_get L 2 = some (0, l2) → jm_get L 3 = some (0, 6) → Inv φ → 6 - l2 < (n : Int) → 0 ≤ l2 → l2 ≤ 6 → (∀ ψ : hf_F, Inv ψ → Fr [49] φ ψ → Q none ψ x) → hw sc d 12 5 L [] φ x Q := by
  intro n
  induction n with
  | zero =>
    intro φ L l2 g0 g1 g2 g3 hI hM b2a b2b hQ
    exfalso
    omega
  | succ n ih =>
    intro φ L l2 g0 g1 g2 g3 hI hM b2a b2b hQ
    refine sf_12_49_k1_0_v5 g0 g1 g2 g3 ?_
    refine ⟨by unfold hi; omega, by unfold hi; omega, fun q1 => ?_, fun q1 => ?_⟩
    · skip
      exact hQ φ hI (fr_rf)
    · skip
      refine ⟨by omega, by omega, ?_⟩
      have i1 : Inv (hf_up φ 49 ((l2).toNat) 0) := iv_upI (s := 0) (t := 6) (lo := 0) (u := 5) (z := l2) hI (by decide +kernel) (by omega) (by omega) (by omega) (by omega)
      have r1 : Fr [49] φ (hf_up φ 49 ((l2).toNat) 0) := fr_up (fr_rf) (by decide)
      exact ih (hf_up φ 49 ((l2).toNat) 0) (jm_st1 L 2 (0, l2 + 1)) (l2 + 1) (get_st1 g0 (by decide) (fun q => absurd q.1 (by decide))) (get_st1 g1 (by decide) (fun q => tg0 q.2)) get_st1e (get_st1 g3 (by decide) (fun q => absurd q.1 (by decide))) i1 (by omega) (by omega) (by omega) (fun χ hIχ hFχ => hQ χ hIχ (fr_tr r1 hFχ (by decide)))
theorem sf_12_49_k1_0_v {sc : List Int} {d : Nat} {φ : hf_F} {x : Nat} {Q : Option jm_V → hf_F → Nat → Prop} 
    (H : hw sc d 12 5 (jm_st1 (jm_st1 [(0, (2, 49)), (1, (0, 0))] 2 (0, 0)) 3 (0, 6)) [] φ x Q) :
    hw sc d 12 0 [(0, (2, 49)), (1, (0, 0))] [] φ x Q := by
  refine hw_k (c := 0) (b := 0) (e := 1) (by decide +kernel) ?_
  refine hw_st (L' := (jm_st1 [(0, (2, 49)), (1, (0, 0))] 2 (0, 0))) (b := 2) (e := 0) (by decide +kernel) rfl ?_
  refine hw_ald (b := 0) (e := 0) (by decide +kernel) (get_st1 rfl (by decide) (fun q => absurd q.1 (by decide))) (by decide) ?_
  refine hr_len (n := 6) (a0 := 0) (b := 0) (e := 0) 49 rfl (by decide +kernel) ?_
  refine hw_st (L' := (jm_st1 (jm_st1 [(0, (2, 49)), (1, (0, 0))] 2 (0, 0)) 3 (0, 6))) (b := 3) (e := 0) (by decide +kernel) rfl ?_
  exact H
theorem sf_12_49_k1_0 {sc : List Int} {d : Nat} {φ : hf_F} {x : Nat} {Q : Option jm_V → hf_F → Nat → Prop}  (hI : Inv φ)  (hQ : ∀ ψ : hf_F, Inv ψ → Fr [49] φ ψ → Q none ψ x) : hw sc d 12 0 [(0, (2, 49)), (1, (0, 0))] [] φ x Q := by
  apply sf_12_49_k1_0_v
  exact sf_12_49_k1_0_l5 ((6 - 0 : Int).toNat + 1) φ (jm_st1 (jm_st1 [(0, (2, 49)), (1, (0, 0))] 2 (0, 0)) 3 (0, 6)) 0 (get_st1 (get_st1 rfl (by decide) (fun q => absurd q.1 (by decide))) (by decide) (fun q => absurd q.1 (by decide))) (get_st1 (get_st1 rfl (by decide) (fun q => tg0 q.2)) (by decide) (fun q => absurd q.1 (by decide))) (get_st1 get_st1e (by decide) (fun q => tg0 q.2)) get_st1e hI (by omega) (by omega) (by omega) (fun χ hIχ hFχ => hQ χ hIχ (fr_tr (fr_rf) hFχ (by decide)))
theorem sf_12_50_k1_0_v5 {sc : List Int} {d : Nat} {φ : hf_F} {x : Nat} {Q : Option jm_V → hf_F → Nat → Prop} {L : jm_L} {l2 : Int} (g0 : jm_get L 0 = some (2, 50)) (g1 : jm_get L 1 = some (0, 0)) (g2 : jm_get L 2 = some (0, l2)) (g3 : jm_get L 3 = some (0, 6))
    (H : hi l2 ∧ hi 6 ∧ (6 ≤ l2 → Q none φ x) ∧ (¬ 6 ≤ l2 → 0 ≤ l2 ∧ l2 < 6 ∧ (hw sc d 12 5 (jm_st1 L 2 (0, l2 + 1)) [] (hf_up φ 50 ((l2).toNat) 0) x Q))) :
    hw sc d 12 5 L [] φ x Q := by
  refine hw_ld (b := 2) (e := 0) (by decide +kernel) g2 ?_
  refine hw_ld (b := 3) (e := 0) (by decide +kernel) g3 ?_
  obtain ⟨hz1, hy1, ht1, hf1⟩ := H
  refine hw_if2 (a0 := 0) (b := 3) (e := 20) (by decide +kernel) hz1 hy1 (fun q => ?_) (fun q => ?_)
  · have H := ht1 q
    exact hw_vret (a0 := 0) (e := 0) (by decide +kernel) H
  · have H := hf1 q
    refine hw_ald (b := 0) (e := 0) (by decide +kernel) g0 (by decide) ?_
    refine hw_ld (b := 2) (e := 0) (by decide +kernel) g2 ?_
    refine hw_ld (b := 1) (e := 0) (by decide +kernel) g1 ?_
    obtain ⟨hl3, hu3, H⟩ := H
    refine hr_as (a0 := 0) (e := 4) (n := 6) 50 rfl (by decide +kernel) hl3 hu3 ?_
    refine hw_inc (L' := (jm_st1 L 2 (0, l2 + 1))) (c := 1) (b := 2) (e := 0) (by decide +kernel) g2 rfl ?_
    refine hw_goto (a0 := 0) (b := 0) (e := 5) (by decide +kernel) ?_
    exact H
theorem sf_12_50_k1_0_l5 {sc : List Int} {d x : Nat} {Q : Option jm_V → hf_F → Nat → Prop} : ∀ (n : Nat) (φ : hf_F) (L : jm_L) (l2 : Int), jm_get L 0 = some (2, 50) → jm_get L 1 = some (0, 0) → jm_get L 2 = some (0, l2) → jm_get L 3 = some (0, 6) → Inv φ → 6 - l2 < (n : Int) → 0 ≤ l2 → l2 ≤ 6 → (∀ ψ : hf_F, Inv ψ → Fr [50] φ ψ → Q none ψ x) → hw sc d 12 5 L [] φ x Q := by
  intro n
  induction n with
  | zero =>
    intro φ L l2 g0 g1 g2 g3 hI hM b2a b2b hQ
    exfalso
    omega
  | succ n ih =>
    intro φ L l2 g0 g1 g2 g3 hI hM b2a b2b hQ
    refine sf_12_50_k1_0_v5 g0 g1 g2 g3 ?_
    refine ⟨by unfold hi; omega, by unfold hi; omega, fun q1 => ?_, fun q1 => ?_⟩
    · skip
      exact hQ φ hI (fr_rf)
    · skip
      refine ⟨by omega, by omega, ?_⟩
      have i1 : Inv (hf_up φ 50 ((l2).toNat) 0) := iv_upIn hI (by decide) (by decide +kernel)
      have r1 : Fr [50] φ (hf_up φ 50 ((l2).toNat) 0) := fr_up (fr_rf) (by decide)
      exact ih (hf_up φ 50 ((l2).toNat) 0) (jm_st1 L 2 (0, l2 + 1)) (l2 + 1) (get_st1 g0 (by decide) (fun q => absurd q.1 (by decide))) (get_st1 g1 (by decide) (fun q => tg0 q.2)) get_st1e (get_st1 g3 (by decide) (fun q => absurd q.1 (by decide))) i1 (by omega) (by omega) (by omega) (fun χ hIχ hFχ => hQ χ hIχ (fr_tr r1 hFχ (by decide)))
theorem sf_12_50_k1_0_v {sc : List Int} {d : Nat} {φ : hf_F} {x : Nat} {Q : Option jm_V → hf_F → Nat → Prop} 
    (H : hw sc d 12 5 (jm_st1 (jm_st1 [(0, (2, 50)), (1, (0, 0))] 2 (0, 0)) 3 (0, 6)) [] φ x Q) :
    hw sc d 12 0 [(0, (2, 50)), (1, (0, 0))] [] φ x Q := by
  refine hw_k (c := 0) (b := 0) (e := 1) (by decide +kernel) ?_
  refine hw_st (L' := (jm_st1 [(0, (2, 50)), (1, (0, 0))] 2 (0, 0))) (b := 2) (e := 0) (by decide +kernel) rfl ?_
  refine hw_ald (b := 0) (e := 0) (by decide +kernel) (get_st1 rfl (by decide) (fun q => absurd q.1 (by decide))) (by decide) ?_
  refine hr_len (n := 6) (a0 := 0) (b := 0) (e := 0) 50 rfl (by decide +kernel) ?_
  refine hw_st (L' := (jm_st1 (jm_st1 [(0, (2, 50)), (1, (0, 0))] 2 (0, 0)) 3 (0, 6))) (b := 3) (e := 0) (by decide +kernel) rfl ?_
  exact H
theorem sf_12_50_k1_0 {sc : List Int} {d : Nat} {φ : hf_F} {x : Nat} {Q : Option jm_V → hf_F → Nat → Prop}  (hI : Inv φ)  (hQ : ∀ ψ : hf_F, Inv ψ → Fr [50] φ ψ → Q none ψ x) : hw sc d 12 0 [(0, (2, 50)), (1, (0, 0))] [] φ x Q := by
  apply sf_12_50_k1_0_v
  exact sf_12_50_k1_0_l5 ((6 - 0 : Int).toNat + 1) φ (jm_st1 (jm_st1 [(0, (2, 50)), (1, (0, 0))] 2 (0, 0)) 3 (0, 6)) 0 (get_st1 (get_st1 rfl (by decide) (fun q => absurd q.1 (by decide))) (by decide) (fun q => absurd q.1 (by decide))) (get_st1 (get_st1 rfl (by decide) (fun q => tg0 q.2)) (by decide) (fun q => absurd q.1 (by decide))) (get_st1 get_st1e (by decide) (fun q => tg0 q.2)) get_st1e hI (by omega) (by omega) (by omega) (fun χ hIχ hFχ => hQ χ hIχ (fr_tr (fr_rf) hFχ (by decide)))
theorem sf_12_51_k1_0_v5 {sc : List Int} {d : Nat} {φ : hf_F} {x : Nat} {Q : Option jm_V → hf_F → Nat → Prop} {L : jm_L} {l2 : Int} (g0 : jm_get L 0 = some (2, 51)) (g1 : jm_get L 1 = some (0, 0)) (g2 : jm_get L 2 = some (0, l2)) (g3 : jm_get L 3 = some (0, 8))
    (H : hi l2 ∧ hi 8 ∧ (8 ≤ l2 → Q none φ x) ∧ (¬ 8 ≤ l2 → 0 ≤ l2 ∧ l2 < 8 ∧ (hw sc d 12 5 (jm_st1 L 2 (0, l2 + 1)) [] (hf_up φ 51 ((l2).toNat) 0) x Q))) :
    hw sc d 12 5 L [] φ x Q := by
  refine hw_ld (b := 2) (e := 0) (by decide +kernel) g2 ?_
  refine hw_ld (b := 3) (e := 0) (by decide +kernel) g3 ?_
  obtain ⟨hz1, hy1, ht1, hf1⟩ := H
  refine hw_if2 (a0 := 0) (b := 3) (e := 20) (by decide +kernel) hz1 hy1 (fun q => ?_) (fun q => ?_)
  · have H := ht1 q
    exact hw_vret (a0 := 0) (e := 0) (by decide +kernel) H
  · have H := hf1 q
    refine hw_ald (b := 0) (e := 0) (by decide +kernel) g0 (by decide) ?_
    refine hw_ld (b := 2) (e := 0) (by decide +kernel) g2 ?_
    refine hw_ld (b := 1) (e := 0) (by decide +kernel) g1 ?_
    obtain ⟨hl3, hu3, H⟩ := H
    refine hr_as (a0 := 0) (e := 4) (n := 8) 51 rfl (by decide +kernel) hl3 hu3 ?_
    refine hw_inc (L' := (jm_st1 L 2 (0, l2 + 1))) (c := 1) (b := 2) (e := 0) (by decide +kernel) g2 rfl ?_
    refine hw_goto (a0 := 0) (b := 0) (e := 5) (by decide +kernel) ?_
    exact H
theorem sf_12_51_k1_0_l5 {sc : List Int} {d x : Nat} {Q : Option jm_V → hf_F → Nat → Prop} : ∀ (n : Nat) (φ : hf_F) (L : jm_L) (l2 : Int), jm_get L 0 = some (2, 51) → jm_get L 1 = some (0, 0) → jm_get L 2 = some (0, l2) → jm_get L 3 = some (0, 8) → Inv φ → 8 - l2 < (n : Int) → 0 ≤ l2 → l2 ≤ 8 → (∀ ψ : hf_F, Inv ψ → Fr [51] φ ψ → Q none ψ x) → hw sc d 12 5 L [] φ x Q := by
  intro n
  induction n with
  | zero =>
    intro φ L l2 g0 g1 g2 g3 hI hM b2a b2b hQ
    exfalso
    omega
  | succ n ih =>
    intro φ L l2 g0 g1 g2 g3 hI hM b2a b2b hQ
    refine sf_12_51_k1_0_v5 g0 g1 g2 g3 ?_
    refine ⟨by unfold hi; omega, by unfold hi; omega, fun q1 => ?_, fun q1 => ?_⟩
    · skip
      exact hQ φ hI (fr_rf)
    · skip
      refine ⟨by omega, by omega, ?_⟩
      have i1 : Inv (hf_up φ 51 ((l2).toNat) 0) := iv_upIn hI (by decide) (by decide +kernel)
      have r1 : Fr [51] φ (hf_up φ 51 ((l2).toNat) 0) := fr_up (fr_rf) (by decide)
      exact ih (hf_up φ 51 ((l2).toNat) 0) (jm_st1 L 2 (0, l2 + 1)) (l2 + 1) (get_st1 g0 (by decide) (fun q => absurd q.1 (by decide))) (get_st1 g1 (by decide) (fun q => tg0 q.2)) get_st1e (get_st1 g3 (by decide) (fun q => absurd q.1 (by decide))) i1 (by omega) (by omega) (by omega) (fun χ hIχ hFχ => hQ χ hIχ (fr_tr r1 hFχ (by decide)))
theorem sf_12_51_k1_0_v {sc : List Int} {d : Nat} {φ : hf_F} {x : Nat} {Q : Option jm_V → hf_F → Nat → Prop} 
    (H : hw sc d 12 5 (jm_st1 (jm_st1 [(0, (2, 51)), (1, (0, 0))] 2 (0, 0)) 3 (0, 8)) [] φ x Q) :
    hw sc d 12 0 [(0, (2, 51)), (1, (0, 0))] [] φ x Q := by
  refine hw_k (c := 0) (b := 0) (e := 1) (by decide +kernel) ?_
  refine hw_st (L' := (jm_st1 [(0, (2, 51)), (1, (0, 0))] 2 (0, 0))) (b := 2) (e := 0) (by decide +kernel) rfl ?_
  refine hw_ald (b := 0) (e := 0) (by decide +kernel) (get_st1 rfl (by decide) (fun q => absurd q.1 (by decide))) (by decide) ?_
  refine hr_len (n := 8) (a0 := 0) (b := 0) (e := 0) 51 rfl (by decide +kernel) ?_
  refine hw_st (L' := (jm_st1 (jm_st1 [(0, (2, 51)), (1, (0, 0))] 2 (0, 0)) 3 (0, 8))) (b := 3) (e := 0) (by decide +kernel) rfl ?_
  exact H
theorem sf_12_51_k1_0 {sc : List Int} {d : Nat} {φ : hf_F} {x : Nat} {Q : Option jm_V → hf_F → Nat → Prop}  (hI : Inv φ)  (hQ : ∀ ψ : hf_F, Inv ψ → Fr [51] φ ψ → Q none ψ x) : hw sc d 12 0 [(0, (2, 51)), (1, (0, 0))] [] φ x Q := by
  apply sf_12_51_k1_0_v
  exact sf_12_51_k1_0_l5 ((8 - 0 : Int).toNat + 1) φ (jm_st1 (jm_st1 [(0, (2, 51)), (1, (0, 0))] 2 (0, 0)) 3 (0, 8)) 0 (get_st1 (get_st1 rfl (by decide) (fun q => absurd q.1 (by decide))) (by decide) (fun q => absurd q.1 (by decide))) (get_st1 (get_st1 rfl (by decide) (fun q => tg0 q.2)) (by decide) (fun q => absurd q.1 (by decide))) (get_st1 get_st1e (by decide) (fun q => tg0 q.2)) get_st1e hI (by omega) (by omega) (by omega) (fun χ hIχ hFχ => hQ χ hIχ (fr_tr (fr_rf) hFχ (by decide)))
theorem sf_27_43_v {sc : List Int} {d : Nat} {φ : hf_F} {x : Nat} {Q : Option jm_V → hf_F → Nat → Prop} 
    (H : hw sc d 12 0 [(0, (2, 45)), (1, (0, (-1 : Int)))] [] (hf_up (hf_up (hf_up (hf_up (hf_up (hf_up φ 43 0 0) 43 1 (-1 : Int)) 43 2 (-1 : Int)) 43 3 0) 43 4 0) 43 5 0) x (fun r ψ1 y1 => y1 = x ∧ (r = none ∧ (hw sc d 12 0 [(0, (2, 46)), (1, (0, (-1 : Int)))] [] ψ1 x (fun r ψ2 y2 => y2 = x ∧ (r = none ∧ (hw sc d 12 0 [(0, (2, 47)), (1, (0, 0))] [] ψ2 x (fun r ψ3 y3 => y3 = x ∧ (r = none ∧ (hw sc d 12 0 [(0, (2, 49)), (1, (0, 0))] [] ψ3 x (fun r ψ4 y4 => y4 = x ∧ (r = none ∧ (hw sc d 12 0 [(0, (2, 50)), (1, (0, 0))] [] ψ4 x (fun r ψ5 y5 => y5 = x ∧ (r = none ∧ (hw sc d 12 0 [(0, (2, 51)), (1, (0, 0))] [] ψ5 x (fun r ψ6 y6 => y6 = x ∧ (r = none ∧ (Q none ψ6 x))))))))))))))))))) :
    hw sc (d + 1) 27 0 [(0, (2, 43))] [] φ x Q := by
  refine hw_ald (b := 0) (e := 0) (by decide +kernel) rfl (by decide) ?_
  refine hw_k (c := 0) (b := 0) (e := 1) (by decide +kernel) ?_
  refine hr_pi (b := 4) (e := 0) 43 rfl (by decide +kernel) ?_
  refine hw_ald (b := 0) (e := 0) (by decide +kernel) rfl (by decide) ?_
  refine hw_k (c := (-1 : Int)) (b := 0) (e := 1) (by decide +kernel) ?_
  refine hr_pi (b := 4) (e := 1) 43 rfl (by decide +kernel) ?_
  refine hw_ald (b := 0) (e := 0) (by decide +kernel) rfl (by decide) ?_
  refine hw_k (c := (-1 : Int)) (b := 0) (e := 1) (by decide +kernel) ?_
  refine hr_pi (b := 4) (e := 2) 43 rfl (by decide +kernel) ?_
  refine hw_ald (b := 0) (e := 0) (by decide +kernel) rfl (by decide) ?_
  refine hw_k (c := 0) (b := 0) (e := 1) (by decide +kernel) ?_
  refine hr_pi (b := 4) (e := 3) 43 rfl (by decide +kernel) ?_
  refine hw_ald (b := 0) (e := 0) (by decide +kernel) rfl (by decide) ?_
  refine hw_k (c := 0) (b := 0) (e := 1) (by decide +kernel) ?_
  refine hr_pi (b := 4) (e := 4) 43 rfl (by decide +kernel) ?_
  refine hw_ald (b := 0) (e := 0) (by decide +kernel) rfl (by decide) ?_
  refine hw_k (c := 0) (b := 0) (e := 1) (by decide +kernel) ?_
  refine hr_pi (b := 4) (e := 5) 43 rfl (by decide +kernel) ?_
  refine hw_ald (b := 0) (e := 0) (by decide +kernel) rfl (by decide) ?_
  refine hr_gr (w := 45) (b := 4) (e := 7) 43 rfl (by decide +kernel) ?_
  refine hw_k (c := (-1 : Int)) (b := 0) (e := 1) (by decide +kernel) ?_
  refine hr_calls (b := 12) (e := 2) (nl := 4) (As := [(2, 45), (0, (-1 : Int))]) (R := []) (by decide +kernel) rfl rfl (Nat.le_of_ble_eq_true rfl) (Nat.le_of_ble_eq_true rfl) ?_
  refine hw_mono H ?_
  rintro r ψ1 y1 ⟨hyx, hr, H⟩
  subst hyx
  subst hr
  refine ⟨hnen, ?_⟩
  show hw sc (d + 1) 27 38 [(0, (2, 43))] [] ψ1 y1 Q
  refine hw_ald (b := 0) (e := 0) (by decide +kernel) rfl (by decide) ?_
  refine hr_gr (w := 46) (b := 4) (e := 8) 43 rfl (by decide +kernel) ?_
  refine hw_k (c := (-1 : Int)) (b := 0) (e := 1) (by decide +kernel) ?_
  refine hr_calls (b := 12) (e := 2) (nl := 4) (As := [(2, 46), (0, (-1 : Int))]) (R := []) (by decide +kernel) rfl rfl (Nat.le_of_ble_eq_true rfl) (Nat.le_of_ble_eq_true rfl) ?_
  refine hw_mono H ?_
  rintro r ψ2 y2 ⟨hyx, hr, H⟩
  subst hyx
  subst hr
  refine ⟨hnen, ?_⟩
  show hw sc (d + 1) 27 46 [(0, (2, 43))] [] ψ2 y2 Q
  refine hw_ald (b := 0) (e := 0) (by decide +kernel) rfl (by decide) ?_
  refine hr_gr (w := 47) (b := 4) (e := 9) 43 rfl (by decide +kernel) ?_
  refine hw_k (c := 0) (b := 0) (e := 1) (by decide +kernel) ?_
  refine hr_calls (b := 12) (e := 2) (nl := 4) (As := [(2, 47), (0, 0)]) (R := []) (by decide +kernel) rfl rfl (Nat.le_of_ble_eq_true rfl) (Nat.le_of_ble_eq_true rfl) ?_
  refine hw_mono H ?_
  rintro r ψ3 y3 ⟨hyx, hr, H⟩
  subst hyx
  subst hr
  refine ⟨hnen, ?_⟩
  show hw sc (d + 1) 27 54 [(0, (2, 43))] [] ψ3 y3 Q
  refine hw_ald (b := 0) (e := 0) (by decide +kernel) rfl (by decide) ?_
  refine hr_gr (w := 49) (b := 4) (e := 11) 43 rfl (by decide +kernel) ?_
  refine hw_k (c := 0) (b := 0) (e := 1) (by decide +kernel) ?_
  refine hr_calls (b := 12) (e := 2) (nl := 4) (As := [(2, 49), (0, 0)]) (R := []) (by decide +kernel) rfl rfl (Nat.le_of_ble_eq_true rfl) (Nat.le_of_ble_eq_true rfl) ?_
  refine hw_mono H ?_
  rintro r ψ4 y4 ⟨hyx, hr, H⟩
  subst hyx
  subst hr
  refine ⟨hnen, ?_⟩
  show hw sc (d + 1) 27 62 [(0, (2, 43))] [] ψ4 y4 Q
  refine hw_ald (b := 0) (e := 0) (by decide +kernel) rfl (by decide) ?_
  refine hr_gr (w := 50) (b := 4) (e := 12) 43 rfl (by decide +kernel) ?_
  refine hw_k (c := 0) (b := 0) (e := 1) (by decide +kernel) ?_
  refine hr_calls (b := 12) (e := 2) (nl := 4) (As := [(2, 50), (0, 0)]) (R := []) (by decide +kernel) rfl rfl (Nat.le_of_ble_eq_true rfl) (Nat.le_of_ble_eq_true rfl) ?_
  refine hw_mono H ?_
  rintro r ψ5 y5 ⟨hyx, hr, H⟩
  subst hyx
  subst hr
  refine ⟨hnen, ?_⟩
  show hw sc (d + 1) 27 70 [(0, (2, 43))] [] ψ5 y5 Q
  refine hw_ald (b := 0) (e := 0) (by decide +kernel) rfl (by decide) ?_
  refine hr_gr (w := 51) (b := 4) (e := 13) 43 rfl (by decide +kernel) ?_
  refine hw_k (c := 0) (b := 0) (e := 1) (by decide +kernel) ?_
  refine hr_calls (b := 12) (e := 2) (nl := 4) (As := [(2, 51), (0, 0)]) (R := []) (by decide +kernel) rfl rfl (Nat.le_of_ble_eq_true rfl) (Nat.le_of_ble_eq_true rfl) ?_
  refine hw_mono H ?_
  rintro r ψ6 y6 ⟨hyx, hr, H⟩
  subst hyx
  subst hr
  refine ⟨hnen, ?_⟩
  show hw sc (d + 1) 27 78 [(0, (2, 43))] [] ψ6 y6 Q
  exact hw_vret (a0 := 0) (e := 0) (by decide +kernel) H
theorem sf_27_43 {sc : List Int} {d : Nat} {φ : hf_F} {x : Nat} {Q : Option jm_V → hf_F → Nat → Prop}  (hI : Inv φ)  (hQ : ∀ ψ : hf_F, Inv ψ → Fr [43, 45, 46, 47, 49, 50, 51] φ ψ → Q none ψ x) : hw sc (d + 1) 27 0 [(0, (2, 43))] [] φ x Q := by
  apply sf_27_43_v
  have i1 : Inv (hf_up φ 43 0 0) := iv_upn hI (by decide) (by decide +kernel)
  have r1 : Fr [43, 45, 46, 47, 49, 50, 51] φ (hf_up φ 43 0 0) := fr_up (fr_rf) (by decide)
  have i2 : Inv (hf_up (hf_up φ 43 0 0) 43 1 (-1 : Int)) := iv_up (lo := (-1 : Int)) (u := 7) i1 (by decide +kernel) (by omega) (by omega)
  have r2 : Fr [43, 45, 46, 47, 49, 50, 51] φ (hf_up (hf_up φ 43 0 0) 43 1 (-1 : Int)) := fr_up r1 (by decide)
  have i3 : Inv (hf_up (hf_up (hf_up φ 43 0 0) 43 1 (-1 : Int)) 43 2 (-1 : Int)) := iv_up (lo := (-1 : Int)) (u := 5) i2 (by decide +kernel) (by omega) (by omega)
  have r3 : Fr [43, 45, 46, 47, 49, 50, 51] φ (hf_up (hf_up (hf_up φ 43 0 0) 43 1 (-1 : Int)) 43 2 (-1 : Int)) := fr_up r2 (by decide)
  have i4 : Inv (hf_up (hf_up (hf_up (hf_up φ 43 0 0) 43 1 (-1 : Int)) 43 2 (-1 : Int)) 43 3 0) := iv_up (lo := (-2147483648 : Int)) (u := 2147483647) i3 (by decide +kernel) (by omega) (by omega)
  have r4 : Fr [43, 45, 46, 47, 49, 50, 51] φ (hf_up (hf_up (hf_up (hf_up φ 43 0 0) 43 1 (-1 : Int)) 43 2 (-1 : Int)) 43 3 0) := fr_up r3 (by decide)
  have i5 : Inv (hf_up (hf_up (hf_up (hf_up (hf_up φ 43 0 0) 43 1 (-1 : Int)) 43 2 (-1 : Int)) 43 3 0) 43 4 0) := iv_upn i4 (by decide) (by decide +kernel)
  have r5 : Fr [43, 45, 46, 47, 49, 50, 51] φ (hf_up (hf_up (hf_up (hf_up (hf_up φ 43 0 0) 43 1 (-1 : Int)) 43 2 (-1 : Int)) 43 3 0) 43 4 0) := fr_up r4 (by decide)
  have i6 : Inv (hf_up (hf_up (hf_up (hf_up (hf_up (hf_up φ 43 0 0) 43 1 (-1 : Int)) 43 2 (-1 : Int)) 43 3 0) 43 4 0) 43 5 0) := iv_upn i5 (by decide) (by decide +kernel)
  have r6 : Fr [43, 45, 46, 47, 49, 50, 51] φ (hf_up (hf_up (hf_up (hf_up (hf_up (hf_up φ 43 0 0) 43 1 (-1 : Int)) 43 2 (-1 : Int)) 43 3 0) 43 4 0) 43 5 0) := fr_up r5 (by decide)
  refine sf_12_45_k1_m1 (φ := (hf_up (hf_up (hf_up (hf_up (hf_up (hf_up φ 43 0 0) 43 1 (-1 : Int)) 43 2 (-1 : Int)) 43 3 0) 43 4 0) 43 5 0)) i6  (fun ψ1 hI1 hF1 => ⟨rfl, rfl, ?_⟩)
  have hG1 : Fr [43, 45, 46, 47, 49, 50, 51] φ ψ1 := fr_tr r6 hF1 (by decide)
  refine sf_12_46_k1_m1 (φ := ψ1) hI1  (fun ψ2 hI2 hF2 => ⟨rfl, rfl, ?_⟩)
  have hG2 : Fr [43, 45, 46, 47, 49, 50, 51] φ ψ2 := fr_tr hG1 hF2 (by decide)
  refine sf_12_47_k1_0 (φ := ψ2) hI2  (fun ψ3 hI3 hF3 => ⟨rfl, rfl, ?_⟩)
  have hG3 : Fr [43, 45, 46, 47, 49, 50, 51] φ ψ3 := fr_tr hG2 hF3 (by decide)
  refine sf_12_49_k1_0 (φ := ψ3) hI3  (fun ψ4 hI4 hF4 => ⟨rfl, rfl, ?_⟩)
  have hG4 : Fr [43, 45, 46, 47, 49, 50, 51] φ ψ4 := fr_tr hG3 hF4 (by decide)
  refine sf_12_50_k1_0 (φ := ψ4) hI4  (fun ψ5 hI5 hF5 => ⟨rfl, rfl, ?_⟩)
  have hG5 : Fr [43, 45, 46, 47, 49, 50, 51] φ ψ5 := fr_tr hG4 hF5 (by decide)
  refine sf_12_51_k1_0 (φ := ψ5) hI5  (fun ψ6 hI6 hF6 => ⟨rfl, rfl, ?_⟩)
  have hG6 : Fr [43, 45, 46, 47, 49, 50, 51] φ ψ6 := fr_tr hG5 hF6 (by decide)
  exact hQ ψ6 hI6 hG6
theorem sf_120_5_v {sc : List Int} {d : Nat} {φ : hf_F} {x : Nat} {Q : Option jm_V → hf_F → Nat → Prop} {v1 v2 : Int}
    (H : 0 ≤ ((v1 * 8) + v2) ∧ ((v1 * 8) + v2) < 40 ∧ (Q (some (1, φ 7 (((v1 * 8) + v2).toNat))) φ x)) :
    hw sc d 120 0 [(0, (2, 5)), (1, (0, v1)), (2, (0, v2))] [] φ x Q := by
  refine hw_ald (b := 0) (e := 0) (by decide +kernel) rfl (by decide) ?_
  refine hr_gr (w := 7) (b := 3) (e := 1) 5 rfl (by decide +kernel) ?_
  refine hw_ld (b := 1) (e := 0) (by decide +kernel) rfl ?_
  refine hw_k (c := 8) (b := 1) (e := 2) (by decide +kernel) ?_
  refine hw_bin (w := v1 * 8) (a0 := 0) (b := 2) (e := 0) (by decide +kernel) rfl ?_
  refine hw_ld (b := 2) (e := 0) (by decide +kernel) rfl ?_
  refine hw_bin (w := (v1 * 8) + v2) (a0 := 0) (b := 0) (e := 0) (by decide +kernel) rfl ?_
  obtain ⟨hl1, hu1, H⟩ := H
  refine hr_all (a0 := 0) (e := 0) (n := 40) (w := φ 7 (((v1 * 8) + v2).toNat)) 7 rfl (by decide +kernel) hl1 hu1 rfl ?_
  exact hw_lret (a0 := 0) (e := 4) (by decide +kernel) H
theorem sf_120_5 {sc : List Int} {d : Nat} {φ : hf_F} {x : Nat} {Q : Option jm_V → hf_F → Nat → Prop} {v1 v2 : Int} (hI : Inv φ) (h1a : 0 ≤ v1) (h1b : v1 ≤ 4) (h2a : 0 ≤ v2) (h2b : v2 ≤ 7) (hQ : ∀ (r : Int) (ψ : hf_F), Inv ψ → Fr [] φ ψ → True → Q (some (1, r)) ψ x) : hw sc d 120 0 [(0, (2, 5)), (1, (0, v1)), (2, (0, v2))] [] φ x Q := by
  apply sf_120_5_v
  refine ⟨by omega, by omega, ?_⟩
  exact hQ (φ 7 (((v1 * 8) + v2).toNat)) φ hI (fr_rf) trivial
theorem sf_63_52_v {sc : List Int} {d : Nat} {φ : hf_F} {x : Nat} {Q : Option jm_V → hf_F → Nat → Prop} 
    (H : Q none (hf_up (hf_up (hf_up φ 52 3 0) 52 4 0) 52 5 0) x) :
    hw sc d 63 0 [(0, (2, 52))] [] φ x Q := by
  refine hw_ald (b := 0) (e := 0) (by decide +kernel) rfl (by decide) ?_
  refine hw_k (c := 0) (b := 0) (e := 1) (by decide +kernel) ?_
  refine hr_pi (b := 5) (e := 3) 52 rfl (by decide +kernel) ?_
  refine hw_ald (b := 0) (e := 0) (by decide +kernel) rfl (by decide) ?_
  refine hw_k (c := 0) (b := 0) (e := 1) (by decide +kernel) ?_
  refine hr_pi (b := 5) (e := 4) 52 rfl (by decide +kernel) ?_
  refine hw_ald (b := 0) (e := 0) (by decide +kernel) rfl (by decide) ?_
  refine hw_k (c := 0) (b := 0) (e := 1) (by decide +kernel) ?_
  refine hr_pz (b := 5) (e := 5) 52 rfl (by decide +kernel) (by decide) ?_
  exact hw_vret (a0 := 0) (e := 0) (by decide +kernel) H
theorem sf_63_52 {sc : List Int} {d : Nat} {φ : hf_F} {x : Nat} {Q : Option jm_V → hf_F → Nat → Prop}  (hI : Inv φ)  (hQ : ∀ ψ : hf_F, Inv ψ → Fr [52] φ ψ → Q none ψ x) : hw sc d 63 0 [(0, (2, 52))] [] φ x Q := by
  apply sf_63_52_v
  have i1 : Inv (hf_up φ 52 3 0) := iv_up (lo := 0) (u := 40) hI (by decide +kernel) (by omega) (by omega)
  have r1 : Fr [52] φ (hf_up φ 52 3 0) := fr_up (fr_rf) (by decide)
  have i2 : Inv (hf_up (hf_up φ 52 3 0) 52 4 0) := iv_up (lo := 0) (u := 20) i1 (by decide +kernel) (by omega) (by omega)
  have r2 : Fr [52] φ (hf_up (hf_up φ 52 3 0) 52 4 0) := fr_up r1 (by decide)
  have i3 : Inv (hf_up (hf_up (hf_up φ 52 3 0) 52 4 0) 52 5 0) := iv_up (lo := 0) (u := 1) i2 (by decide +kernel) (by omega) (by omega)
  have r3 : Fr [52] φ (hf_up (hf_up (hf_up φ 52 3 0) 52 4 0) 52 5 0) := fr_up r2 (by decide)
  exact hQ (hf_up (hf_up (hf_up φ 52 3 0) 52 4 0) 52 5 0) i3 r3
theorem sf_62_0_v {sc : List Int} {d : Nat} {φ : hf_F} {x : Nat} {Q : Option jm_V → hf_F → Nat → Prop} 
    (H : Q none (hf_up (hf_up φ 0 12 (φ 1 9)) 1 2 0) x) :
    hw sc d 62 0 [(0, (2, 0))] [] φ x Q := by
  refine hw_ald (b := 0) (e := 0) (by decide +kernel) rfl (by decide) ?_
  refine hw_ald (b := 0) (e := 0) (by decide +kernel) rfl (by decide) ?_
  refine hr_gr (w := 1) (b := 0) (e := 0) 0 rfl (by decide +kernel) ?_
  refine hr_gi (w := φ 1 9) (b := 1) (e := 9) 1 rfl (by decide +kernel) rfl ?_
  refine hr_pi (b := 0) (e := 12) 0 rfl (by decide +kernel) ?_
  refine hw_ald (b := 0) (e := 0) (by decide +kernel) rfl (by decide) ?_
  refine hr_gr (w := 1) (b := 0) (e := 0) 0 rfl (by decide +kernel) ?_
  refine hw_k (c := 0) (b := 0) (e := 1) (by decide +kernel) ?_
  refine hr_pi (b := 1) (e := 2) 1 rfl (by decide +kernel) ?_
  exact hw_vret (a0 := 0) (e := 0) (by decide +kernel) H
theorem sf_62_0 {sc : List Int} {d : Nat} {φ : hf_F} {x : Nat} {Q : Option jm_V → hf_F → Nat → Prop}  (hI : Inv φ)  (hQ : ∀ ψ : hf_F, Inv ψ → Fr [0, 1] φ ψ → Q none ψ x) : hw sc d 62 0 [(0, (2, 0))] [] φ x Q := by
  apply sf_62_0_v
  have f1 := iv_at (a := 1) (k := 9) (lo := 0) (u := 4) hI (by decide +kernel)
  have i2 : Inv (hf_up φ 0 12 (φ 1 9)) := iv_up (lo := 0) (u := 4) hI (by decide +kernel) (by omega) (by omega)
  have r2 : Fr [0, 1] φ (hf_up φ 0 12 (φ 1 9)) := fr_up (fr_rf) (by decide)
  have i3 : Inv (hf_up (hf_up φ 0 12 (φ 1 9)) 1 2 0) := iv_up (lo := 0) (u := 940) i2 (by decide +kernel) (by omega) (by omega)
  have r3 : Fr [0, 1] φ (hf_up (hf_up φ 0 12 (φ 1 9)) 1 2 0) := fr_up r2 (by decide)
  exact hQ (hf_up (hf_up φ 0 12 (φ 1 9)) 1 2 0) i3 r3
theorem sf_34_1_v12 {sc : List Int} {d : Nat} {φ : hf_F} {x : Nat} {Q : Option jm_V → hf_F → Nat → Prop} {L : jm_L} {l1 l3 : Int} (g0 : jm_get L 0 = some (2, 1)) (g1 : jm_get L 1 = some (1, l1)) (g3 : jm_get L 3 = some (0, l3))
    (H : hi l3 ∧ hi 23 ∧ (23 ≤ l3 → Q none φ x) ∧ (¬ 23 ≤ l3 → 0 ≤ l3 ∧ l3 < 23 ∧ (hi (jm_cmp (φ 3 ((l3).toNat)) l1) ∧ (¬ (jm_cmp (φ 3 ((l3).toNat)) l1) = 0 → hw sc d 34 12 (jm_st1 L 3 (0, l3 + 1)) [] φ x Q) ∧ (¬ (¬ (jm_cmp (φ 3 ((l3).toNat)) l1) = 0) → hw sc d 34 12 (jm_st1 L 3 (0, l3 + 1)) [] (hf_up (hf_up φ 1 5 3) 1 7 l3) x Q)))) :
    hw sc d 34 12 L [] φ x Q := by
  refine hw_ld (b := 3) (e := 0) (by decide +kernel) g3 ?_
  refine hw_k (c := 23) (b := 1) (e := 2) (by decide +kernel) ?_
  obtain ⟨hz1, hy1, ht1, hf1⟩ := H
  refine hw_if2 (a0 := 0) (b := 3) (e := 45) (by decide +kernel) hz1 hy1 (fun q => ?_) (fun q => ?_)
  · have H := ht1 q
    exact hw_vret (a0 := 0) (e := 0) (by decide +kernel) H
  · have H := hf1 q
    refine hw_ald (b := 0) (e := 0) (by decide +kernel) g0 (by decide) ?_
    refine hr_gr (w := 3) (b := 1) (e := 1) 1 rfl (by decide +kernel) ?_
    refine hw_ld (b := 3) (e := 0) (by decide +kernel) g3 ?_
    obtain ⟨hl3, hu3, H⟩ := H
    refine hr_all (a0 := 0) (e := 0) (n := 23) (w := φ 3 ((l3).toNat)) 3 rfl (by decide +kernel) hl3 hu3 rfl ?_
    refine hw_lld (b := 1) (e := 0) (by decide +kernel) g1 ?_
    refine hw_lcmp (w := jm_cmp (φ 3 ((l3).toNat)) l1) (a0 := 0) (b := 0) (e := 0) (by decide +kernel) rfl ?_
    obtain ⟨hz4, ht4, hf4⟩ := H
    refine hw_if (a0 := 0) (b := 1) (e := 39) (by decide +kernel) hz4 (fun q => ?_) (fun q => ?_)
    · have H := ht4 q
      refine hw_inc (L' := (jm_st1 L 3 (0, l3 + 1))) (c := 1) (b := 3) (e := 0) (by decide +kernel) g3 rfl ?_
      refine hw_goto (a0 := 0) (b := 0) (e := 12) (by decide +kernel) ?_
      exact H
    · have H := hf4 q
      refine hw_ald (b := 0) (e := 0) (by decide +kernel) g0 (by decide) ?_
      refine hw_k (c := 3) (b := 0) (e := 1) (by decide +kernel) ?_
      refine hr_pi (b := 1) (e := 5) 1 rfl (by decide +kernel) ?_
      refine hw_ald (b := 0) (e := 0) (by decide +kernel) g0 (by decide) ?_
      refine hw_ld (b := 3) (e := 0) (by decide +kernel) g3 ?_
      refine hr_pi (b := 1) (e := 7) 1 rfl (by decide +kernel) ?_
      refine hw_inc (L' := (jm_st1 L 3 (0, l3 + 1))) (c := 1) (b := 3) (e := 0) (by decide +kernel) g3 rfl ?_
      refine hw_goto (a0 := 0) (b := 0) (e := 12) (by decide +kernel) ?_
      exact H
theorem sf_34_1_l12 {sc : List Int} {d x : Nat} {Q : Option jm_V → hf_F → Nat → Prop} : ∀ (n : Nat) (φ : hf_F) (L : jm_L) (l1 l3 : Int), jm_get L 0 = some (2, 1) → jm_get L 1 = some (1, l1) → jm_get L 3 = some (0, l3) → Inv φ → 23 - l3 < (n : Int) → 0 ≤ l3 → l3 ≤ 23 → (∀ ψ : hf_F, Inv ψ → Fr [1] φ ψ → Q none ψ x) → hw sc d 34 12 L [] φ x Q := by
  intro n
  induction n with
  | zero =>
    intro φ L l1 l3 g0 g1 g3 hI hM b3a b3b hQ
    exfalso
    omega
  | succ n ih =>
    intro φ L l1 l3 g0 g1 g3 hI hM b3a b3b hQ
    refine sf_34_1_v12 g0 g1 g3 ?_
    refine ⟨by unfold hi; omega, by unfold hi; omega, fun q1 => ?_, fun q1 => ?_⟩
    · skip
      exact hQ φ hI (fr_rf)
    · skip
      refine ⟨by omega, by omega, ?_⟩
      have f1 := hr_cmp (φ 3 ((l3).toNat)) l1
      refine ⟨by unfold hi; omega, fun q4 => ?_, fun q4 => ?_⟩
      · skip
        exact ih φ (jm_st1 L 3 (0, l3 + 1)) l1 (l3 + 1) (get_st1 g0 (by decide) (fun q => absurd q.1 (by decide))) (get_st1 g1 (by decide) (fun q => absurd q.1 (by decide))) get_st1e hI (by omega) (by omega) (by omega) (fun χ hIχ hFχ => hQ χ hIχ (fr_tr (fr_rf) hFχ (by decide)))
      · skip
        have i2 : Inv (hf_up φ 1 5 3) := iv_up (lo := 0) (u := 5) hI (by decide +kernel) (by omega) (by omega)
        have r2 : Fr [1] φ (hf_up φ 1 5 3) := fr_up (fr_rf) (by decide)
        have i3 : Inv (hf_up (hf_up φ 1 5 3) 1 7 l3) := iv_up (lo := (-128 : Int)) (u := 999) i2 (by decide +kernel) (by omega) (by omega)
        have r3 : Fr [1] φ (hf_up (hf_up φ 1 5 3) 1 7 l3) := fr_up r2 (by decide)
        exact ih (hf_up (hf_up φ 1 5 3) 1 7 l3) (jm_st1 L 3 (0, l3 + 1)) l1 (l3 + 1) (get_st1 g0 (by decide) (fun q => absurd q.1 (by decide))) (get_st1 g1 (by decide) (fun q => absurd q.1 (by decide))) get_st1e i3 (by omega) (by omega) (by omega) (fun χ hIχ hFχ => hQ χ hIχ (fr_tr r3 hFχ (by decide)))
theorem sf_34_1_v {sc : List Int} {d : Nat} {φ : hf_F} {x : Nat} {Q : Option jm_V → hf_F → Nat → Prop} {v1 : Int}
    (H : hw sc d 34 12 (jm_st1 [(0, (2, 1)), (1, (1, v1))] 3 (0, 0)) [] (hf_up (hf_up φ 1 8 v1) 1 5 2) x Q) :
    hw sc d 34 0 [(0, (2, 1)), (1, (1, v1))] [] φ x Q := by
  refine hw_ald (b := 0) (e := 0) (by decide +kernel) rfl (by decide) ?_
  refine hw_lld (b := 1) (e := 0) (by decide +kernel) rfl ?_
  refine hr_pl (b := 1) (e := 8) 1 rfl (by decide +kernel) ?_
  refine hw_ald (b := 0) (e := 0) (by decide +kernel) rfl (by decide) ?_
  refine hw_k (c := 2) (b := 0) (e := 1) (by decide +kernel) ?_
  refine hr_pi (b := 1) (e := 5) 1 rfl (by decide +kernel) ?_
  refine hw_k (c := 0) (b := 0) (e := 1) (by decide +kernel) ?_
  refine hw_st (L' := (jm_st1 [(0, (2, 1)), (1, (1, v1))] 3 (0, 0))) (b := 3) (e := 0) (by decide +kernel) rfl ?_
  exact H
theorem sf_34_1 {sc : List Int} {d : Nat} {φ : hf_F} {x : Nat} {Q : Option jm_V → hf_F → Nat → Prop} {v1 : Int} (hI : Inv φ)  (hQ : ∀ ψ : hf_F, Inv ψ → Fr [1] φ ψ → Q none ψ x) : hw sc d 34 0 [(0, (2, 1)), (1, (1, v1))] [] φ x Q := by
  apply sf_34_1_v
  have i1 : Inv (hf_up φ 1 8 v1) := iv_upn hI (by decide) (by decide +kernel)
  have r1 : Fr [1] φ (hf_up φ 1 8 v1) := fr_up (fr_rf) (by decide)
  have i2 : Inv (hf_up (hf_up φ 1 8 v1) 1 5 2) := iv_up (lo := 0) (u := 5) i1 (by decide +kernel) (by omega) (by omega)
  have r2 : Fr [1] φ (hf_up (hf_up φ 1 8 v1) 1 5 2) := fr_up r1 (by decide)
  exact sf_34_1_l12 ((23 - 0 : Int).toNat + 1) (hf_up (hf_up φ 1 8 v1) 1 5 2) (jm_st1 [(0, (2, 1)), (1, (1, v1))] 3 (0, 0)) v1 0 (get_st1 rfl (by decide) (fun q => absurd q.1 (by decide))) (get_st1 rfl (by decide) (fun q => absurd q.1 (by decide))) get_st1e i2 (by omega) (by omega) (by omega) (fun χ hIχ hFχ => hQ χ hIχ (fr_tr r2 hFχ (by decide)))
theorem sf_41_31_v2 {sc : List Int} {d : Nat} {φ : hf_F} {x : Nat} {Q : Option jm_V → hf_F → Nat → Prop} {L : jm_L} {l1 l3 : Int} (g0 : jm_get L 0 = some (2, 31)) (g1 : jm_get L 1 = some (1, l1)) (g3 : jm_get L 3 = some (0, l3))
    (H : hi l3 ∧ hi 5 ∧ (5 ≤ l3 → Q (some (0, 0)) φ x) ∧ (¬ 5 ≤ l3 → hw sc d 42 0 [(0, (2, 31)), (1, (0, l3)), (2, (1, l1))] [] φ x (fun r ψ3 y3 => y3 = x ∧ (∃ z3 : Int, r = some (0, z3) ∧ (hi z3 ∧ hi (-1 : Int) ∧ (z3 = (-1 : Int) → hw sc (d + 1) 41 2 (jm_st1 L 3 (0, l3 + 1)) [] ψ3 x Q) ∧ (¬ z3 = (-1 : Int) → Q (some (0, 1)) ψ3 x)))))) :
    hw sc (d + 1) 41 2 L [] φ x Q := by
  refine hw_ld (b := 3) (e := 0) (by decide +kernel) g3 ?_
  refine hw_k (c := 5) (b := 0) (e := 1) (by decide +kernel) ?_
  obtain ⟨hz1, hy1, ht1, hf1⟩ := H
  refine hw_if2 (a0 := 0) (b := 3) (e := 25) (by decide +kernel) hz1 hy1 (fun q => ?_) (fun q => ?_)
  · have H := ht1 q
    refine hw_k (c := 0) (b := 0) (e := 1) (by decide +kernel) ?_
    exact hw_ret (a0 := 0) (e := 1) (by decide +kernel) (Or.inr ⟨rfl, by decide⟩) H
  · have H := hf1 q
    refine hw_ald (b := 0) (e := 0) (by decide +kernel) g0 (by decide) ?_
    refine hw_ld (b := 3) (e := 0) (by decide +kernel) g3 ?_
    refine hw_lld (b := 1) (e := 0) (by decide +kernel) g1 ?_
    refine hr_call (a0 := 13) (b := 42) (e := 3) (nl := 5) (As := [(0, l3), (1, l1)]) (R := []) 31 rfl (by decide +kernel) rfl rfl (Nat.le_of_ble_eq_true rfl) (Nat.le_of_ble_eq_true rfl) ?_
    refine hw_mono H ?_
    rintro r ψ3 y3 ⟨hyx, z3, hr, H⟩
    subst hyx
    subst hr
    refine ⟨hne0, ?_⟩
    show hw sc (d + 1) 41 13 L [(0, z3)] ψ3 y3 Q
    refine hw_k (c := (-1 : Int)) (b := 0) (e := 1) (by decide +kernel) ?_
    obtain ⟨hz4, hy4, ht4, hf4⟩ := H
    refine hw_if2 (a0 := 0) (b := 0) (e := 19) (by decide +kernel) hz4 hy4 (fun q => ?_) (fun q => ?_)
    · have H := ht4 q
      refine hw_inc (L' := (jm_st1 L 3 (0, l3 + 1))) (c := 1) (b := 3) (e := 0) (by decide +kernel) g3 rfl ?_
      refine hw_goto (a0 := 0) (b := 0) (e := 2) (by decide +kernel) ?_
      exact H
    · have H := hf4 q
      refine hw_k (c := 1) (b := 0) (e := 1) (by decide +kernel) ?_
      exact hw_ret (a0 := 0) (e := 1) (by decide +kernel) (Or.inr ⟨rfl, by decide⟩) H
theorem sf_41_31_l2 {sc : List Int} {d x : Nat} {Q : Option jm_V → hf_F → Nat → Prop} : ∀ (n : Nat) (φ : hf_F) (L : jm_L) (l1 l3 : Int), jm_get L 0 = some (2, 31) → jm_get L 1 = some (1, l1) → jm_get L 3 = some (0, l3) → Inv φ → 5 - l3 < (n : Int) → 0 ≤ l3 → l3 ≤ 5 → (∀ (r : Int) (ψ : hf_F), Inv ψ → Fr [] φ ψ → 0 ≤ r ∧ r ≤ 1 → Q (some (0, r)) ψ x) → hw sc (d + 1) 41 2 L [] φ x Q := by
  intro n
  induction n with
  | zero =>
    intro φ L l1 l3 g0 g1 g3 hI hM b3a b3b hQ
    exfalso
    omega
  | succ n ih =>
    intro φ L l1 l3 g0 g1 g3 hI hM b3a b3b hQ
    refine sf_41_31_v2 g0 g1 g3 ?_
    refine ⟨by unfold hi; omega, by unfold hi; omega, fun q1 => ?_, fun q1 => ?_⟩
    · skip
      exact hQ 0 φ hI (fr_rf) ⟨by omega, by omega⟩
    · skip
      refine sf_42_31 (φ := φ) hI (by omega) (by omega) (fun z3 ψ3 hI3 hF3 hp3 => ⟨rfl, z3, rfl, ?_⟩)
      have hG3 : Fr [] φ ψ3 := fr_tr (fr_rf) hF3 (by decide)
      refine ⟨by unfold hi; omega, by unfold hi; omega, fun q4 => ?_, fun q4 => ?_⟩
      · skip
        exact ih ψ3 (jm_st1 L 3 (0, l3 + 1)) l1 (l3 + 1) (get_st1 g0 (by decide) (fun q => absurd q.1 (by decide))) (get_st1 g1 (by decide) (fun q => absurd q.1 (by decide))) get_st1e hI3 (by omega) (by omega) (by omega) (fun rr χ hIχ hFχ hpχ => hQ rr χ hIχ (fr_tr hG3 hFχ (by decide)) hpχ)
      · skip
        exact hQ 1 ψ3 hI3 hG3 ⟨by omega, by omega⟩
theorem sf_41_31_v {sc : List Int} {d : Nat} {φ : hf_F} {x : Nat} {Q : Option jm_V → hf_F → Nat → Prop} {v1 : Int}
    (H : hw sc (d + 1) 41 2 (jm_st1 [(0, (2, 31)), (1, (1, v1))] 3 (0, 0)) [] φ x Q) :
    hw sc (d + 1) 41 0 [(0, (2, 31)), (1, (1, v1))] [] φ x Q := by
  refine hw_k (c := 0) (b := 0) (e := 1) (by decide +kernel) ?_
  refine hw_st (L' := (jm_st1 [(0, (2, 31)), (1, (1, v1))] 3 (0, 0))) (b := 3) (e := 0) (by decide +kernel) rfl ?_
  exact H
theorem sf_41_31 {sc : List Int} {d : Nat} {φ : hf_F} {x : Nat} {Q : Option jm_V → hf_F → Nat → Prop} {v1 : Int} (hI : Inv φ)  (hQ : ∀ (r : Int) (ψ : hf_F), Inv ψ → Fr [] φ ψ → 0 ≤ r ∧ r ≤ 1 → Q (some (0, r)) ψ x) : hw sc (d + 1) 41 0 [(0, (2, 31)), (1, (1, v1))] [] φ x Q := by
  apply sf_41_31_v
  exact sf_41_31_l2 ((5 - 0 : Int).toNat + 1) φ (jm_st1 [(0, (2, 31)), (1, (1, v1))] 3 (0, 0)) v1 0 (get_st1 rfl (by decide) (fun q => absurd q.1 (by decide))) (get_st1 rfl (by decide) (fun q => absurd q.1 (by decide))) get_st1e hI (by omega) (by omega) (by omega) (fun rr χ hIχ hFχ hpχ => hQ rr χ hIχ (fr_tr (fr_rf) hFχ (by decide)) hpχ)
theorem sf_48_182_v2 {sc : List Int} {d : Nat} {φ : hf_F} {x : Nat} {Q : Option jm_V → hf_F → Nat → Prop} {L : jm_L} {l1 l2 l3 : Int} (g0 : jm_get L 0 = some (2, 182)) (g1 : jm_get L 1 = some (0, l1)) (g2 : jm_get L 2 = some (0, l2)) (g3 : jm_get L 3 = some (0, l3))
    (H : hi l3 ∧ hi (φ 32 1) ∧ ((φ 32 1) ≤ l3 → Q (some (0, 0)) φ x) ∧ (¬ (φ 32 1) ≤ l3 → 0 ≤ l3 ∧ l3 < 8 ∧ (hi (φ 36 ((l3).toNat)) ∧ hi l1 ∧ (¬ (φ 36 ((l3).toNat)) = l1 → hw sc d 48 2 (jm_st1 L 3 (0, l3 + 1)) [] φ x Q) ∧ (¬ (¬ (φ 36 ((l3).toNat)) = l1) → 0 ≤ l3 ∧ l3 < 8 ∧ (hi (φ 44 ((l3).toNat)) ∧ hi l2 ∧ (¬ (φ 44 ((l3).toNat)) = l2 → hw sc d 48 2 (jm_st1 L 3 (0, l3 + 1)) [] φ x Q) ∧ (¬ (¬ (φ 44 ((l3).toNat)) = l2) → Q (some (0, 1)) φ x)))))) :
    hw sc d 48 2 L [] φ x Q := by
  refine hw_ld (b := 3) (e := 0) (by decide +kernel) g3 ?_
  refine hw_ald (b := 0) (e := 0) (by decide +kernel) g0 (by decide) ?_
  refine hr_gr (w := 31) (b := 7) (e := 1) 182 rfl (by decide +kernel) ?_
  refine hr_gr (w := 32) (b := 3) (e := 0) 31 rfl (by decide +kernel) ?_
  refine hw_k (c := 1) (b := 0) (e := 1) (by decide +kernel) ?_
  refine hr_al (b := 0) (a0 := 0) (e := 0) (n := 5) (w := φ 32 1) 32 rfl (by decide +kernel) (by decide) (by decide) (by decide) rfl ?_
  obtain ⟨hz1, hy1, ht1, hf1⟩ := H
  refine hw_if2 (a0 := 0) (b := 3) (e := 49) (by decide +kernel) hz1 hy1 (fun q => ?_) (fun q => ?_)
  · have H := ht1 q
    refine hw_k (c := 0) (b := 0) (e := 1) (by decide +kernel) ?_
    exact hw_ret (a0 := 0) (e := 1) (by decide +kernel) (Or.inr ⟨rfl, by decide⟩) H
  · have H := hf1 q
    refine hw_ald (b := 0) (e := 0) (by decide +kernel) g0 (by decide) ?_
    refine hr_gr (w := 31) (b := 7) (e := 1) 182 rfl (by decide +kernel) ?_
    refine hr_gr (w := 36) (b := 3) (e := 4) 31 rfl (by decide +kernel) ?_
    refine hw_ld (b := 3) (e := 0) (by decide +kernel) g3 ?_
    obtain ⟨hl3, hu3, H⟩ := H
    refine hr_al (b := 0) (a0 := 0) (e := 0) (n := 8) (w := φ 36 ((l3).toNat)) 36 rfl (by decide +kernel) (by decide) hl3 hu3 rfl ?_
    refine hw_ld (b := 1) (e := 0) (by decide +kernel) g1 ?_
    obtain ⟨hz4, hy4, ht4, hf4⟩ := H
    refine hw_if2 (a0 := 0) (b := 1) (e := 43) (by decide +kernel) hz4 hy4 (fun q => ?_) (fun q => ?_)
    · have H := ht4 q
      refine hw_inc (L' := (jm_st1 L 3 (0, l3 + 1))) (c := 1) (b := 3) (e := 0) (by decide +kernel) g3 rfl ?_
      refine hw_goto (a0 := 0) (b := 0) (e := 2) (by decide +kernel) ?_
      exact H
    · have H := hf4 q
      refine hw_ald (b := 0) (e := 0) (by decide +kernel) g0 (by decide) ?_
      refine hr_gr (w := 43) (b := 7) (e := 2) 182 rfl (by decide +kernel) ?_
      refine hr_gr (w := 44) (b := 4) (e := 6) 43 rfl (by decide +kernel) ?_
      refine hw_ld (b := 3) (e := 0) (by decide +kernel) g3 ?_
      obtain ⟨hl5, hu5, H⟩ := H
      refine hr_al (b := 0) (a0 := 0) (e := 0) (n := 8) (w := φ 44 ((l3).toNat)) 44 rfl (by decide +kernel) (by decide) hl5 hu5 rfl ?_
      refine hw_ld (b := 2) (e := 0) (by decide +kernel) g2 ?_
      obtain ⟨hz6, hy6, ht6, hf6⟩ := H
      refine hw_if2 (a0 := 0) (b := 1) (e := 43) (by decide +kernel) hz6 hy6 (fun q => ?_) (fun q => ?_)
      · have H := ht6 q
        refine hw_inc (L' := (jm_st1 L 3 (0, l3 + 1))) (c := 1) (b := 3) (e := 0) (by decide +kernel) g3 rfl ?_
        refine hw_goto (a0 := 0) (b := 0) (e := 2) (by decide +kernel) ?_
        exact H
      · have H := hf6 q
        refine hw_k (c := 1) (b := 0) (e := 1) (by decide +kernel) ?_
        exact hw_ret (a0 := 0) (e := 1) (by decide +kernel) (Or.inr ⟨rfl, by decide⟩) H
theorem sf_48_182_l2 {sc : List Int} {d x : Nat} {Q : Option jm_V → hf_F → Nat → Prop} : ∀ (n : Nat) (φ : hf_F) (L : jm_L) (l1 l2 l3 : Int), jm_get L 0 = some (2, 182) → jm_get L 1 = some (0, l1) → jm_get L 2 = some (0, l2) → jm_get L 3 = some (0, l3) → Inv φ → 8 - l3 < (n : Int) → 0 ≤ l1 → l1 ≤ 2 → 0 ≤ l2 → l2 ≤ 29 → 0 ≤ l3 → l3 ≤ 8 → (∀ (r : Int) (ψ : hf_F), Inv ψ → Fr [] φ ψ → 0 ≤ r ∧ r ≤ 1 → Q (some (0, r)) ψ x) → hw sc d 48 2 L [] φ x Q := by
  intro n
  induction n with
  | zero =>
    intro φ L l1 l2 l3 g0 g1 g2 g3 hI hM b1a b1b b2a b2b b3a b3b hQ
    exfalso
    omega
  | succ n ih =>
    intro φ L l1 l2 l3 g0 g1 g2 g3 hI hM b1a b1b b2a b2b b3a b3b hQ
    refine sf_48_182_v2 g0 g1 g2 g3 ?_
    have f1 := iv_at (a := 32) (k := 1) (lo := 0) (u := 8) hI (by decide +kernel)
    refine ⟨by unfold hi; omega, by unfold hi; omega, fun q1 => ?_, fun q1 => ?_⟩
    · skip
      exact hQ 0 φ hI (fr_rf) ⟨by omega, by omega⟩
    · skip
      refine ⟨by omega, by omega, ?_⟩
      have f2 := iv_ar (a := 36) (s := 0) (t := 8) (lo := 0) (u := 2) (z := l3) hI (by decide +kernel) (by omega) (by omega)
      refine ⟨by unfold hi; omega, by unfold hi; omega, fun q4 => ?_, fun q4 => ?_⟩
      · skip
        exact ih φ (jm_st1 L 3 (0, l3 + 1)) l1 l2 (l3 + 1) (get_st1 g0 (by decide) (fun q => absurd q.1 (by decide))) (get_st1 g1 (by decide) (fun q => absurd q.1 (by decide))) (get_st1 g2 (by decide) (fun q => tg0 q.2)) get_st1e hI (by omega) (by omega) (by omega) (by omega) (by omega) (by omega) (by omega) (fun rr χ hIχ hFχ hpχ => hQ rr χ hIχ (fr_tr (fr_rf) hFχ (by decide)) hpχ)
      · skip
        refine ⟨by omega, by omega, ?_⟩
        have f3 := iv_ar (a := 44) (s := 0) (t := 8) (lo := 0) (u := 29) (z := l3) hI (by decide +kernel) (by omega) (by omega)
        refine ⟨by unfold hi; omega, by unfold hi; omega, fun q6 => ?_, fun q6 => ?_⟩
        · skip
          exact ih φ (jm_st1 L 3 (0, l3 + 1)) l1 l2 (l3 + 1) (get_st1 g0 (by decide) (fun q => absurd q.1 (by decide))) (get_st1 g1 (by decide) (fun q => absurd q.1 (by decide))) (get_st1 g2 (by decide) (fun q => tg0 q.2)) get_st1e hI (by omega) (by omega) (by omega) (by omega) (by omega) (by omega) (by omega) (fun rr χ hIχ hFχ hpχ => hQ rr χ hIχ (fr_tr (fr_rf) hFχ (by decide)) hpχ)
        · skip
          exact hQ 1 φ hI (fr_rf) ⟨by omega, by omega⟩
theorem sf_48_182_v {sc : List Int} {d : Nat} {φ : hf_F} {x : Nat} {Q : Option jm_V → hf_F → Nat → Prop} {v1 v2 : Int}
    (H : hw sc d 48 2 (jm_st1 [(0, (2, 182)), (1, (0, v1)), (2, (0, v2))] 3 (0, 0)) [] φ x Q) :
    hw sc d 48 0 [(0, (2, 182)), (1, (0, v1)), (2, (0, v2))] [] φ x Q := by
  refine hw_k (c := 0) (b := 0) (e := 1) (by decide +kernel) ?_
  refine hw_st (L' := (jm_st1 [(0, (2, 182)), (1, (0, v1)), (2, (0, v2))] 3 (0, 0))) (b := 3) (e := 0) (by decide +kernel) rfl ?_
  exact H
theorem sf_48_182 {sc : List Int} {d : Nat} {φ : hf_F} {x : Nat} {Q : Option jm_V → hf_F → Nat → Prop} {v1 v2 : Int} (hI : Inv φ) (h1a : 0 ≤ v1) (h1b : v1 ≤ 2) (h2a : 0 ≤ v2) (h2b : v2 ≤ 29) (hQ : ∀ (r : Int) (ψ : hf_F), Inv ψ → Fr [] φ ψ → 0 ≤ r ∧ r ≤ 1 → Q (some (0, r)) ψ x) : hw sc d 48 0 [(0, (2, 182)), (1, (0, v1)), (2, (0, v2))] [] φ x Q := by
  apply sf_48_182_v
  exact sf_48_182_l2 ((8 - 0 : Int).toNat + 1) φ (jm_st1 [(0, (2, 182)), (1, (0, v1)), (2, (0, v2))] 3 (0, 0)) v1 v2 0 (get_st1 rfl (by decide) (fun q => absurd q.1 (by decide))) (get_st1 rfl (by decide) (fun q => absurd q.1 (by decide))) (get_st1 rfl (by decide) (fun q => tg0 q.2)) get_st1e hI (by omega) (by omega) (by omega) (by omega) (by omega) (by omega) (by omega) (fun rr χ hIχ hFχ hpχ => hQ rr χ hIχ (fr_tr (fr_rf) hFχ (by decide)) hpχ)
theorem sf_109_187_v {sc : List Int} {d : Nat} {φ : hf_F} {x : Nat} {Q : Option jm_V → hf_F → Nat → Prop} {v1 : Int}
    (H : 0 ≤ v1 ∧ v1 < 8 ∧ (0 ≤ v1 ∧ v1 < 8 ∧ (Q (some (0, hb_or (hb_shl 1 (φ 13 ((v1).toNat))) (hb_shl 1 (φ 14 ((v1).toNat))))) φ x))) :
    hw sc d 109 0 [(0, (2, 187)), (1, (0, v1))] [] φ x Q := by
  refine hw_k (c := 1) (b := 0) (e := 1) (by decide +kernel) ?_
  refine hw_ald (b := 0) (e := 0) (by decide +kernel) rfl (by decide) ?_
  refine hr_gr (w := 5) (b := 9) (e := 0) 187 rfl (by decide +kernel) ?_
  refine hr_gr (w := 13) (b := 3) (e := 7) 5 rfl (by decide +kernel) ?_
  refine hw_ld (b := 1) (e := 0) (by decide +kernel) rfl ?_
  obtain ⟨hl1, hu1, H⟩ := H
  refine hr_al (b := 0) (a0 := 0) (e := 0) (n := 8) (w := φ 13 ((v1).toNat)) 13 rfl (by decide +kernel) (by decide) hl1 hu1 rfl ?_
  refine hw_bin (w := hb_shl 1 (φ 13 ((v1).toNat))) (a0 := 0) (b := 6) (e := 0) (by decide +kernel) rfl ?_
  refine hw_k (c := 1) (b := 0) (e := 1) (by decide +kernel) ?_
  refine hw_ald (b := 0) (e := 0) (by decide +kernel) rfl (by decide) ?_
  refine hr_gr (w := 5) (b := 9) (e := 0) 187 rfl (by decide +kernel) ?_
  refine hr_gr (w := 14) (b := 3) (e := 8) 5 rfl (by decide +kernel) ?_
  refine hw_ld (b := 1) (e := 0) (by decide +kernel) rfl ?_
  obtain ⟨hl2, hu2, H⟩ := H
  refine hr_al (b := 0) (a0 := 0) (e := 0) (n := 8) (w := φ 14 ((v1).toNat)) 14 rfl (by decide +kernel) (by decide) hl2 hu2 rfl ?_
  refine hw_bin (w := hb_shl 1 (φ 14 ((v1).toNat))) (a0 := 0) (b := 6) (e := 0) (by decide +kernel) rfl ?_
  refine hw_bin (w := hb_or (hb_shl 1 (φ 13 ((v1).toNat))) (hb_shl 1 (φ 14 ((v1).toNat)))) (a0 := 0) (b := 4) (e := 0) (by decide +kernel) rfl ?_
  exact hw_ret (a0 := 0) (e := 0) (by decide +kernel) (Or.inl rfl) H
theorem sf_109_187 {sc : List Int} {d : Nat} {φ : hf_F} {x : Nat} {Q : Option jm_V → hf_F → Nat → Prop} {v1 : Int} (hI : Inv φ) (h1a : 0 ≤ v1) (h1b : v1 ≤ 7) (hQ : ∀ (r : Int) (ψ : hf_F), Inv ψ → Fr [] φ ψ → True → Q (some (0, r)) ψ x) : hw sc d 109 0 [(0, (2, 187)), (1, (0, v1))] [] φ x Q := by
  apply sf_109_187_v
  refine ⟨by omega, by omega, ?_⟩
  have f1 := iv_ar (a := 13) (s := 0) (t := 8) (lo := 0) (u := 7) (z := v1) hI (by decide +kernel) (by omega) (by omega)
  have f2 := hr_shl 1 (φ 13 ((v1).toNat))
  refine ⟨by omega, by omega, ?_⟩
  have f3 := iv_ar (a := 14) (s := 0) (t := 8) (lo := 0) (u := 7) (z := v1) hI (by decide +kernel) (by omega) (by omega)
  have f4 := hr_shl 1 (φ 14 ((v1).toNat))
  have f5 := hr_or (hb_shl 1 (φ 13 ((v1).toNat))) (hb_shl 1 (φ 14 ((v1).toNat)))
  exact hQ (hb_or (hb_shl 1 (φ 13 ((v1).toNat))) (hb_shl 1 (φ 14 ((v1).toNat)))) φ hI (fr_rf) trivial
theorem sf_107_187_v4 {sc : List Int} {d : Nat} {φ : hf_F} {x : Nat} {Q : Option jm_V → hf_F → Nat → Prop} {L : jm_L} {l1 l2 l3 : Int} (g0 : jm_get L 0 = some (2, 187)) (g1 : jm_get L 1 = some (0, l1)) (g2 : jm_get L 2 = some (0, l2)) (g3 : jm_get L 3 = some (0, l3))
    (H : hi l3 ∧ hi (φ 6 3) ∧ ((φ 6 3) ≤ l3 → Q (some (0, l2)) φ x) ∧ (¬ (φ 6 3) ≤ l3 → hw sc (d + 1) 108 0 [(0, (2, 17)), (1, (0, l3))] [] φ x (fun r ψ3 y3 => y3 = x ∧ (∃ z3 : Int, r = some (0, z3) ∧ (hw sc (d + 1) 109 0 [(0, (2, 187)), (1, (0, l1))] [] ψ3 x (fun r ψ4 y4 => y4 = x ∧ (∃ z4 : Int, r = some (0, z4) ∧ (hi (hb_and z3 z4) ∧ ((hb_and z3 z4) = 0 → hw sc (d + 2) 107 4 (jm_st1 L 3 (0, l3 + 1)) [] ψ4 x Q) ∧ (¬ (hb_and z3 z4) = 0 → hw sc (d + 2) 107 4 (jm_st1 (jm_st1 L 2 (0, hb_or l2 (hb_shl 1 l3))) 3 (0, l3 + 1)) [] ψ4 x Q))))))))) :
    hw sc (d + 2) 107 4 L [] φ x Q := by
  refine hw_ld (b := 3) (e := 0) (by decide +kernel) g3 ?_
  refine hw_ald (b := 0) (e := 0) (by decide +kernel) g0 (by decide) ?_
  refine hr_gr (w := 5) (b := 9) (e := 0) 187 rfl (by decide +kernel) ?_
  refine hr_gr (w := 6) (b := 3) (e := 0) 5 rfl (by decide +kernel) ?_
  refine hw_k (c := 3) (b := 0) (e := 1) (by decide +kernel) ?_
  refine hr_al (b := 0) (a0 := 0) (e := 0) (n := 5) (w := φ 6 3) 6 rfl (by decide +kernel) (by decide) (by decide) (by decide) rfl ?_
  obtain ⟨hz1, hy1, ht1, hf1⟩ := H
  refine hw_if2 (a0 := 0) (b := 3) (e := 46) (by decide +kernel) hz1 hy1 (fun q => ?_) (fun q => ?_)
  · have H := ht1 q
    refine hw_ld (b := 2) (e := 0) (by decide +kernel) g2 ?_
    exact hw_ret (a0 := 0) (e := 0) (by decide +kernel) (Or.inl rfl) H
  · have H := hf1 q
    refine hw_ald (b := 0) (e := 0) (by decide +kernel) g0 (by decide) ?_
    refine hr_gr (w := 17) (b := 9) (e := 1) 187 rfl (by decide +kernel) ?_
    refine hw_ld (b := 3) (e := 0) (by decide +kernel) g3 ?_
    refine hr_call (a0 := 14) (b := 108) (e := 2) (nl := 4) (As := [(0, l3)]) (R := []) 17 rfl (by decide +kernel) rfl rfl (Nat.le_of_ble_eq_true rfl) (Nat.le_of_ble_eq_true rfl) ?_
    refine hw_mono H ?_
    rintro r ψ3 y3 ⟨hyx, z3, hr, H⟩
    subst hyx
    subst hr
    refine ⟨hne0, ?_⟩
    show hw sc (d + 2) 107 25 L [(0, z3)] ψ3 y3 Q
    refine hw_ald (b := 0) (e := 0) (by decide +kernel) g0 (by decide) ?_
    refine hw_ld (b := 1) (e := 0) (by decide +kernel) g1 ?_
    refine hr_call (a0 := 19) (b := 109) (e := 2) (nl := 2) (As := [(0, l1)]) (R := [(0, z3)]) 187 rfl (by decide +kernel) rfl rfl (Nat.le_of_ble_eq_true rfl) (Nat.le_of_ble_eq_true rfl) ?_
    refine hw_mono H ?_
    rintro r ψ4 y4 ⟨hyx, z4, hr, H⟩
    subst hyx
    subst hr
    refine ⟨hne0, ?_⟩
    show hw sc (d + 2) 107 30 L [(0, z4), (0, z3)] ψ4 y4 Q
    refine hw_bin (w := hb_and z3 z4) (a0 := 0) (b := 3) (e := 0) (by decide +kernel) rfl ?_
    obtain ⟨hz5, ht5, hf5⟩ := H
    refine hw_if (a0 := 0) (b := 0) (e := 40) (by decide +kernel) hz5 (fun q => ?_) (fun q => ?_)
    · have H := ht5 q
      refine hw_inc (L' := (jm_st1 L 3 (0, l3 + 1))) (c := 1) (b := 3) (e := 0) (by decide +kernel) g3 rfl ?_
      refine hw_goto (a0 := 0) (b := 0) (e := 4) (by decide +kernel) ?_
      exact H
    · have H := hf5 q
      refine hw_ld (b := 2) (e := 0) (by decide +kernel) g2 ?_
      refine hw_k (c := 1) (b := 0) (e := 1) (by decide +kernel) ?_
      refine hw_ld (b := 3) (e := 0) (by decide +kernel) g3 ?_
      refine hw_bin (w := hb_shl 1 l3) (a0 := 0) (b := 6) (e := 0) (by decide +kernel) rfl ?_
      refine hw_bin (w := hb_or l2 (hb_shl 1 l3)) (a0 := 0) (b := 4) (e := 0) (by decide +kernel) rfl ?_
      refine hw_st (L' := (jm_st1 L 2 (0, hb_or l2 (hb_shl 1 l3)))) (b := 2) (e := 0) (by decide +kernel) rfl ?_
      refine hw_inc (L' := (jm_st1 (jm_st1 L 2 (0, hb_or l2 (hb_shl 1 l3))) 3 (0, l3 + 1))) (c := 1) (b := 3) (e := 0) (by decide +kernel) (get_st1 g3 (by decide) (fun q => absurd q.1 (by decide))) rfl ?_
      refine hw_goto (a0 := 0) (b := 0) (e := 4) (by decide +kernel) ?_
      exact H
theorem sf_107_187_l4 {sc : List Int} {d x : Nat} {Q : Option jm_V → hf_F → Nat → Prop} : ∀ (n : Nat) (φ : hf_F) (L : jm_L) (l1 l2 l3 : Int), jm_get L 0 = some (2, 187) → jm_get L 1 = some (0, l1) → jm_get L 2 = some (0, l2) → jm_get L 3 = some (0, l3) → Inv φ → 6 - l3 < (n : Int) → 0 ≤ l1 → l1 ≤ 7 → (-2147483648 : Int) ≤ l2 → l2 ≤ 2147483647 → 0 ≤ l3 → l3 ≤ 6 → (∀ (r : Int) (ψ : hf_F), Inv ψ → Fr [] φ ψ → True → Q (some (0, r)) ψ x) → hw sc (d + 2) 107 4 L [] φ x Q := by
  intro n
  induction n with
  | zero =>
    intro φ L l1 l2 l3 g0 g1 g2 g3 hI hM b1a b1b b2a b2b b3a b3b hQ
    exfalso
    omega
  | succ n ih =>
    intro φ L l1 l2 l3 g0 g1 g2 g3 hI hM b1a b1b b2a b2b b3a b3b hQ
    refine sf_107_187_v4 g0 g1 g2 g3 ?_
    have f1 := iv_at (a := 6) (k := 3) (lo := 0) (u := 6) hI (by decide +kernel)
    refine ⟨by unfold hi; omega, by unfold hi; omega, fun q1 => ?_, fun q1 => ?_⟩
    · skip
      exact hQ l2 φ hI (fr_rf) trivial
    · skip
      refine sf_108_17 (φ := φ) hI (by omega) (by omega) (fun z3 ψ3 hI3 hF3 hp3 => ⟨rfl, z3, rfl, ?_⟩)
      have hG3 : Fr [] φ ψ3 := fr_tr (fr_rf) hF3 (by decide)
      refine sf_109_187 (φ := ψ3) hI3 (by omega) (by omega) (fun z4 ψ4 hI4 hF4 hp4 => ⟨rfl, z4, rfl, ?_⟩)
      have hG4 : Fr [] φ ψ4 := fr_tr hG3 hF4 (by decide)
      have f2 := hr_and z3 z4
      refine ⟨by unfold hi; omega, fun q5 => ?_, fun q5 => ?_⟩
      · skip
        exact ih ψ4 (jm_st1 L 3 (0, l3 + 1)) l1 l2 (l3 + 1) (get_st1 g0 (by decide) (fun q => absurd q.1 (by decide))) (get_st1 g1 (by decide) (fun q => absurd q.1 (by decide))) (get_st1 g2 (by decide) (fun q => tg0 q.2)) get_st1e hI4 (by omega) (by omega) (by omega) (by omega) (by omega) (by omega) (by omega) (fun rr χ hIχ hFχ hpχ => hQ rr χ hIχ (fr_tr hG4 hFχ (by decide)) hpχ)
      · skip
        have f3 := hr_shl 1 l3
        have f4 := hr_or l2 (hb_shl 1 l3)
        exact ih ψ4 (jm_st1 (jm_st1 L 2 (0, hb_or l2 (hb_shl 1 l3))) 3 (0, l3 + 1)) l1 (hb_or l2 (hb_shl 1 l3)) (l3 + 1) (get_st1 (get_st1 g0 (by decide) (fun q => absurd q.1 (by decide))) (by decide) (fun q => absurd q.1 (by decide))) (get_st1 (get_st1 g1 (by decide) (fun q => tg0 q.2)) (by decide) (fun q => absurd q.1 (by decide))) (get_st1 get_st1e (by decide) (fun q => tg0 q.2)) get_st1e hI4 (by omega) (by omega) (by omega) (by omega) (by omega) (by omega) (by omega) (fun rr χ hIχ hFχ hpχ => hQ rr χ hIχ (fr_tr hG4 hFχ (by decide)) hpχ)
theorem sf_107_187_v {sc : List Int} {d : Nat} {φ : hf_F} {x : Nat} {Q : Option jm_V → hf_F → Nat → Prop} {v1 : Int}
    (H : hw sc (d + 2) 107 4 (jm_st1 (jm_st1 [(0, (2, 187)), (1, (0, v1))] 2 (0, 0)) 3 (0, 0)) [] φ x Q) :
    hw sc (d + 2) 107 0 [(0, (2, 187)), (1, (0, v1))] [] φ x Q := by
  refine hw_k (c := 0) (b := 0) (e := 1) (by decide +kernel) ?_
  refine hw_st (L' := (jm_st1 [(0, (2, 187)), (1, (0, v1))] 2 (0, 0))) (b := 2) (e := 0) (by decide +kernel) rfl ?_
  refine hw_k (c := 0) (b := 0) (e := 1) (by decide +kernel) ?_
  refine hw_st (L' := (jm_st1 (jm_st1 [(0, (2, 187)), (1, (0, v1))] 2 (0, 0)) 3 (0, 0))) (b := 3) (e := 0) (by decide +kernel) rfl ?_
  exact H
theorem sf_107_187 {sc : List Int} {d : Nat} {φ : hf_F} {x : Nat} {Q : Option jm_V → hf_F → Nat → Prop} {v1 : Int} (hI : Inv φ) (h1a : 0 ≤ v1) (h1b : v1 ≤ 7) (hQ : ∀ (r : Int) (ψ : hf_F), Inv ψ → Fr [] φ ψ → True → Q (some (0, r)) ψ x) : hw sc (d + 2) 107 0 [(0, (2, 187)), (1, (0, v1))] [] φ x Q := by
  apply sf_107_187_v
  exact sf_107_187_l4 ((6 - 0 : Int).toNat + 1) φ (jm_st1 (jm_st1 [(0, (2, 187)), (1, (0, v1))] 2 (0, 0)) 3 (0, 0)) v1 0 0 (get_st1 (get_st1 rfl (by decide) (fun q => absurd q.1 (by decide))) (by decide) (fun q => absurd q.1 (by decide))) (get_st1 (get_st1 rfl (by decide) (fun q => tg0 q.2)) (by decide) (fun q => absurd q.1 (by decide))) (get_st1 get_st1e (by decide) (fun q => tg0 q.2)) get_st1e hI (by omega) (by omega) (by omega) (by omega) (by omega) (by omega) (by omega) (fun rr χ hIχ hFχ hpχ => hQ rr χ hIχ (fr_tr (fr_rf) hFχ (by decide)) hpχ)
theorem sf_164_187_v4 {sc : List Int} {d : Nat} {φ : hf_F} {x : Nat} {Q : Option jm_V → hf_F → Nat → Prop} {L : jm_L} {l1 l2 l3 : Int} (g0 : jm_get L 0 = some (2, 187)) (g1 : jm_get L 1 = some (0, l1)) (g2 : jm_get L 2 = some (0, l2)) (g3 : jm_get L 3 = some (0, l3))
    (H : hi l3 ∧ hi (φ 6 3) ∧ ((φ 6 3) ≤ l3 → Q (some (0, l2)) φ x) ∧ (¬ (φ 6 3) ≤ l3 → hi (hb_and (hb_shr l1 l3) 1) ∧ ((hb_and (hb_shr l1 l3) 1) = 0 → hw sc (d + 2) 164 4 (jm_st1 L 3 (0, l3 + 1)) [] φ x Q) ∧ (¬ (hb_and (hb_shr l1 l3) 1) = 0 → hw sc (d + 1) 108 0 [(0, (2, 17)), (1, (0, l3))] [] φ x (fun r ψ4 y4 => y4 = x ∧ (∃ z4 : Int, r = some (0, z4) ∧ (hw sc (d + 2) 164 4 (jm_st1 (jm_st1 L 2 (0, hb_or l2 z4)) 3 (0, l3 + 1)) [] ψ4 x Q)))))) :
    hw sc (d + 2) 164 4 L [] φ x Q := by
  refine hw_ld (b := 3) (e := 0) (by decide +kernel) g3 ?_
  refine hw_ald (b := 0) (e := 0) (by decide +kernel) g0 (by decide) ?_
  refine hr_gr (w := 5) (b := 9) (e := 0) 187 rfl (by decide +kernel) ?_
  refine hr_gr (w := 6) (b := 3) (e := 0) 5 rfl (by decide +kernel) ?_
  refine hw_k (c := 3) (b := 0) (e := 1) (by decide +kernel) ?_
  refine hr_al (b := 0) (a0 := 0) (e := 0) (n := 5) (w := φ 6 3) 6 rfl (by decide +kernel) (by decide) (by decide) (by decide) rfl ?_
  obtain ⟨hz1, hy1, ht1, hf1⟩ := H
  refine hw_if2 (a0 := 0) (b := 3) (e := 42) (by decide +kernel) hz1 hy1 (fun q => ?_) (fun q => ?_)
  · have H := ht1 q
    refine hw_ld (b := 2) (e := 0) (by decide +kernel) g2 ?_
    exact hw_ret (a0 := 0) (e := 0) (by decide +kernel) (Or.inl rfl) H
  · have H := hf1 q
    refine hw_ld (b := 1) (e := 0) (by decide +kernel) g1 ?_
    refine hw_ld (b := 3) (e := 0) (by decide +kernel) g3 ?_
    refine hw_bin (w := hb_shr l1 l3) (a0 := 0) (b := 7) (e := 0) (by decide +kernel) rfl ?_
    refine hw_k (c := 1) (b := 0) (e := 1) (by decide +kernel) ?_
    refine hw_bin (w := hb_and (hb_shr l1 l3) 1) (a0 := 0) (b := 3) (e := 0) (by decide +kernel) rfl ?_
    obtain ⟨hz3, ht3, hf3⟩ := H
    refine hw_if (a0 := 0) (b := 0) (e := 36) (by decide +kernel) hz3 (fun q => ?_) (fun q => ?_)
    · have H := ht3 q
      refine hw_inc (L' := (jm_st1 L 3 (0, l3 + 1))) (c := 1) (b := 3) (e := 0) (by decide +kernel) g3 rfl ?_
      refine hw_goto (a0 := 0) (b := 0) (e := 4) (by decide +kernel) ?_
      exact H
    · have H := hf3 q
      refine hw_ld (b := 2) (e := 0) (by decide +kernel) g2 ?_
      refine hw_ald (b := 0) (e := 0) (by decide +kernel) g0 (by decide) ?_
      refine hr_gr (w := 17) (b := 9) (e := 1) 187 rfl (by decide +kernel) ?_
      refine hw_ld (b := 3) (e := 0) (by decide +kernel) g3 ?_
      refine hr_call (a0 := 14) (b := 108) (e := 2) (nl := 4) (As := [(0, l3)]) (R := [(0, l2)]) 17 rfl (by decide +kernel) rfl rfl (Nat.le_of_ble_eq_true rfl) (Nat.le_of_ble_eq_true rfl) ?_
      refine hw_mono H ?_
      rintro r ψ4 y4 ⟨hyx, z4, hr, H⟩
      subst hyx
      subst hr
      refine ⟨hne0, ?_⟩
      show hw sc (d + 2) 164 34 L [(0, z4), (0, l2)] ψ4 y4 Q
      refine hw_bin (w := hb_or l2 z4) (a0 := 0) (b := 4) (e := 0) (by decide +kernel) rfl ?_
      refine hw_st (L' := (jm_st1 L 2 (0, hb_or l2 z4))) (b := 2) (e := 0) (by decide +kernel) rfl ?_
      refine hw_inc (L' := (jm_st1 (jm_st1 L 2 (0, hb_or l2 z4)) 3 (0, l3 + 1))) (c := 1) (b := 3) (e := 0) (by decide +kernel) (get_st1 g3 (by decide) (fun q => absurd q.1 (by decide))) rfl ?_
      refine hw_goto (a0 := 0) (b := 0) (e := 4) (by decide +kernel) ?_
      exact H
theorem sf_164_187_l4 {sc : List Int} {d x : Nat} {Q : Option jm_V → hf_F → Nat → Prop} : ∀ (n : Nat) (φ : hf_F) (L : jm_L) (l1 l2 l3 : Int), jm_get L 0 = some (2, 187) → jm_get L 1 = some (0, l1) → jm_get L 2 = some (0, l2) → jm_get L 3 = some (0, l3) → Inv φ → 6 - l3 < (n : Int) → (-2147483648 : Int) ≤ l1 → l1 ≤ 2147483647 → (-2147483648 : Int) ≤ l2 → l2 ≤ 2147483647 → 0 ≤ l3 → l3 ≤ 6 → (∀ (r : Int) (ψ : hf_F), Inv ψ → Fr [] φ ψ → True → Q (some (0, r)) ψ x) → hw sc (d + 2) 164 4 L [] φ x Q := by
  intro n
  induction n with
  | zero =>
    intro φ L l1 l2 l3 g0 g1 g2 g3 hI hM b1a b1b b2a b2b b3a b3b hQ
    exfalso
    omega
  | succ n ih =>
    intro φ L l1 l2 l3 g0 g1 g2 g3 hI hM b1a b1b b2a b2b b3a b3b hQ
    refine sf_164_187_v4 g0 g1 g2 g3 ?_
    have f1 := iv_at (a := 6) (k := 3) (lo := 0) (u := 6) hI (by decide +kernel)
    refine ⟨by unfold hi; omega, by unfold hi; omega, fun q1 => ?_, fun q1 => ?_⟩
    · skip
      exact hQ l2 φ hI (fr_rf) trivial
    · skip
      have f2 := hr_shr l1 l3
      have f3 := hr_and1 (hb_shr l1 l3)
      have f4 := hr_and (hb_shr l1 l3) 1
      refine ⟨by unfold hi; omega, fun q3 => ?_, fun q3 => ?_⟩
      · skip
        exact ih φ (jm_st1 L 3 (0, l3 + 1)) l1 l2 (l3 + 1) (get_st1 g0 (by decide) (fun q => absurd q.1 (by decide))) (get_st1 g1 (by decide) (fun q => absurd q.1 (by decide))) (get_st1 g2 (by decide) (fun q => tg0 q.2)) get_st1e hI (by omega) (by omega) (by omega) (by omega) (by omega) (by omega) (by omega) (fun rr χ hIχ hFχ hpχ => hQ rr χ hIχ (fr_tr (fr_rf) hFχ (by decide)) hpχ)
      · skip
        refine sf_108_17 (φ := φ) hI (by omega) (by omega) (fun z4 ψ4 hI4 hF4 hp4 => ⟨rfl, z4, rfl, ?_⟩)
        have hG4 : Fr [] φ ψ4 := fr_tr (fr_rf) hF4 (by decide)
        have f5 := hr_or l2 z4
        exact ih ψ4 (jm_st1 (jm_st1 L 2 (0, hb_or l2 z4)) 3 (0, l3 + 1)) l1 (hb_or l2 z4) (l3 + 1) (get_st1 (get_st1 g0 (by decide) (fun q => absurd q.1 (by decide))) (by decide) (fun q => absurd q.1 (by decide))) (get_st1 (get_st1 g1 (by decide) (fun q => tg0 q.2)) (by decide) (fun q => absurd q.1 (by decide))) (get_st1 get_st1e (by decide) (fun q => tg0 q.2)) get_st1e hI4 (by omega) (by omega) (by omega) (by omega) (by omega) (by omega) (by omega) (fun rr χ hIχ hFχ hpχ => hQ rr χ hIχ (fr_tr hG4 hFχ (by decide)) hpχ)
theorem sf_164_187_v {sc : List Int} {d : Nat} {φ : hf_F} {x : Nat} {Q : Option jm_V → hf_F → Nat → Prop} {v1 : Int}
    (H : hw sc (d + 2) 164 4 (jm_st1 (jm_st1 [(0, (2, 187)), (1, (0, v1))] 2 (0, 0)) 3 (0, 0)) [] φ x Q) :
    hw sc (d + 2) 164 0 [(0, (2, 187)), (1, (0, v1))] [] φ x Q := by
  refine hw_k (c := 0) (b := 0) (e := 1) (by decide +kernel) ?_
  refine hw_st (L' := (jm_st1 [(0, (2, 187)), (1, (0, v1))] 2 (0, 0))) (b := 2) (e := 0) (by decide +kernel) rfl ?_
  refine hw_k (c := 0) (b := 0) (e := 1) (by decide +kernel) ?_
  refine hw_st (L' := (jm_st1 (jm_st1 [(0, (2, 187)), (1, (0, v1))] 2 (0, 0)) 3 (0, 0))) (b := 3) (e := 0) (by decide +kernel) rfl ?_
  exact H
theorem sf_164_187 {sc : List Int} {d : Nat} {φ : hf_F} {x : Nat} {Q : Option jm_V → hf_F → Nat → Prop} {v1 : Int} (hI : Inv φ) (h1a : (-2147483648 : Int) ≤ v1) (h1b : v1 ≤ 2147483647) (hQ : ∀ (r : Int) (ψ : hf_F), Inv ψ → Fr [] φ ψ → True → Q (some (0, r)) ψ x) : hw sc (d + 2) 164 0 [(0, (2, 187)), (1, (0, v1))] [] φ x Q := by
  apply sf_164_187_v
  exact sf_164_187_l4 ((6 - 0 : Int).toNat + 1) φ (jm_st1 (jm_st1 [(0, (2, 187)), (1, (0, v1))] 2 (0, 0)) 3 (0, 0)) v1 0 0 (get_st1 (get_st1 rfl (by decide) (fun q => absurd q.1 (by decide))) (by decide) (fun q => absurd q.1 (by decide))) (get_st1 (get_st1 rfl (by decide) (fun q => tg0 q.2)) (by decide) (fun q => absurd q.1 (by decide))) (get_st1 get_st1e (by decide) (fun q => tg0 q.2)) get_st1e hI (by omega) (by omega) (by omega) (by omega) (by omega) (by omega) (by omega) (fun rr χ hIχ hFχ hpχ => hQ rr χ hIχ (fr_tr (fr_rf) hFχ (by decide)) hpχ)
theorem sf_113_187_v2 {sc : List Int} {d : Nat} {φ : hf_F} {x : Nat} {Q : Option jm_V → hf_F → Nat → Prop} {L : jm_L} {l1 l2 : Int} (g0 : jm_get L 0 = some (2, 187)) (g1 : jm_get L 1 = some (0, l1)) (g2 : jm_get L 2 = some (0, l2))
    (H : hi l2 ∧ hi (φ 6 4) ∧ ((φ 6 4) ≤ l2 → Q (some (0, 1)) φ x) ∧ (¬ (φ 6 4) ≤ l2 → hi (hb_and (hb_shr l1 l2) 1) ∧ ((hb_and (hb_shr l1 l2) 1) = 0 → hw sc d 113 2 (jm_st1 L 2 (0, l2 + 1)) [] φ x Q) ∧ (¬ (hb_and (hb_shr l1 l2) 1) = 0 → 0 ≤ l2 ∧ l2 < 8 ∧ (hi (hb_and (φ 15 ((l2).toNat)) l1) ∧ ((hb_and (φ 15 ((l2).toNat)) l1) = 0 → hw sc d 113 2 (jm_st1 L 2 (0, l2 + 1)) [] φ x Q) ∧ (¬ (hb_and (φ 15 ((l2).toNat)) l1) = 0 → Q (some (0, 0)) φ x))))) :
    hw sc d 113 2 L [] φ x Q := by
  refine hw_ld (b := 2) (e := 0) (by decide +kernel) g2 ?_
  refine hw_ald (b := 0) (e := 0) (by decide +kernel) g0 (by decide) ?_
  refine hr_gr (w := 5) (b := 9) (e := 0) 187 rfl (by decide +kernel) ?_
  refine hr_gr (w := 6) (b := 3) (e := 0) 5 rfl (by decide +kernel) ?_
  refine hw_k (c := 4) (b := 0) (e := 1) (by decide +kernel) ?_
  refine hr_al (b := 0) (a0 := 0) (e := 0) (n := 5) (w := φ 6 4) 6 rfl (by decide +kernel) (by decide) (by decide) (by decide) rfl ?_
  obtain ⟨hz1, hy1, ht1, hf1⟩ := H
  refine hw_if2 (a0 := 0) (b := 3) (e := 45) (by decide +kernel) hz1 hy1 (fun q => ?_) (fun q => ?_)
  · have H := ht1 q
    refine hw_k (c := 1) (b := 0) (e := 1) (by decide +kernel) ?_
    exact hw_ret (a0 := 0) (e := 1) (by decide +kernel) (Or.inr ⟨rfl, by decide⟩) H
  · have H := hf1 q
    refine hw_ld (b := 1) (e := 0) (by decide +kernel) g1 ?_
    refine hw_ld (b := 2) (e := 0) (by decide +kernel) g2 ?_
    refine hw_bin (w := hb_shr l1 l2) (a0 := 0) (b := 7) (e := 0) (by decide +kernel) rfl ?_
    refine hw_k (c := 1) (b := 0) (e := 1) (by decide +kernel) ?_
    refine hw_bin (w := hb_and (hb_shr l1 l2) 1) (a0 := 0) (b := 3) (e := 0) (by decide +kernel) rfl ?_
    obtain ⟨hz3, ht3, hf3⟩ := H
    refine hw_if (a0 := 0) (b := 0) (e := 39) (by decide +kernel) hz3 (fun q => ?_) (fun q => ?_)
    · have H := ht3 q
      refine hw_inc (L' := (jm_st1 L 2 (0, l2 + 1))) (c := 1) (b := 2) (e := 0) (by decide +kernel) g2 rfl ?_
      refine hw_goto (a0 := 0) (b := 0) (e := 2) (by decide +kernel) ?_
      exact H
    · have H := hf3 q
      refine hw_ald (b := 0) (e := 0) (by decide +kernel) g0 (by decide) ?_
      refine hr_gr (w := 5) (b := 9) (e := 0) 187 rfl (by decide +kernel) ?_
      refine hr_gr (w := 15) (b := 3) (e := 9) 5 rfl (by decide +kernel) ?_
      refine hw_ld (b := 2) (e := 0) (by decide +kernel) g2 ?_
      obtain ⟨hl4, hu4, H⟩ := H
      refine hr_al (b := 0) (a0 := 0) (e := 0) (n := 8) (w := φ 15 ((l2).toNat)) 15 rfl (by decide +kernel) (by decide) hl4 hu4 rfl ?_
      refine hw_ld (b := 1) (e := 0) (by decide +kernel) g1 ?_
      refine hw_bin (w := hb_and (φ 15 ((l2).toNat)) l1) (a0 := 0) (b := 3) (e := 0) (by decide +kernel) rfl ?_
      obtain ⟨hz5, ht5, hf5⟩ := H
      refine hw_if (a0 := 0) (b := 0) (e := 39) (by decide +kernel) hz5 (fun q => ?_) (fun q => ?_)
      · have H := ht5 q
        refine hw_inc (L' := (jm_st1 L 2 (0, l2 + 1))) (c := 1) (b := 2) (e := 0) (by decide +kernel) g2 rfl ?_
        refine hw_goto (a0 := 0) (b := 0) (e := 2) (by decide +kernel) ?_
        exact H
      · have H := hf5 q
        refine hw_k (c := 0) (b := 0) (e := 1) (by decide +kernel) ?_
        exact hw_ret (a0 := 0) (e := 1) (by decide +kernel) (Or.inr ⟨rfl, by decide⟩) H
theorem sf_113_187_l2 {sc : List Int} {d x : Nat} {Q : Option jm_V → hf_F → Nat → Prop} : ∀ (n : Nat) (φ : hf_F) (L : jm_L) (l1 l2 : Int), jm_get L 0 = some (2, 187) → jm_get L 1 = some (0, l1) → jm_get L 2 = some (0, l2) → Inv φ → 8 - l2 < (n : Int) → (-2147483648 : Int) ≤ l1 → l1 ≤ 2147483647 → 0 ≤ l2 → l2 ≤ 8 → (∀ (r : Int) (ψ : hf_F), Inv ψ → Fr [] φ ψ → 0 ≤ r ∧ r ≤ 1 → Q (some (0, r)) ψ x) → hw sc d 113 2 L [] φ x Q := by
  intro n
  induction n with
  | zero =>
    intro φ L l1 l2 g0 g1 g2 hI hM b1a b1b b2a b2b hQ
    exfalso
    omega
  | succ n ih =>
    intro φ L l1 l2 g0 g1 g2 hI hM b1a b1b b2a b2b hQ
    refine sf_113_187_v2 g0 g1 g2 ?_
    have f1 := iv_at (a := 6) (k := 4) (lo := 0) (u := 8) hI (by decide +kernel)
    refine ⟨by unfold hi; omega, by unfold hi; omega, fun q1 => ?_, fun q1 => ?_⟩
    · skip
      exact hQ 1 φ hI (fr_rf) ⟨by omega, by omega⟩
    · skip
      have f2 := hr_shr l1 l2
      have f3 := hr_and1 (hb_shr l1 l2)
      have f4 := hr_and (hb_shr l1 l2) 1
      refine ⟨by unfold hi; omega, fun q3 => ?_, fun q3 => ?_⟩
      · skip
        exact ih φ (jm_st1 L 2 (0, l2 + 1)) l1 (l2 + 1) (get_st1 g0 (by decide) (fun q => absurd q.1 (by decide))) (get_st1 g1 (by decide) (fun q => tg0 q.2)) get_st1e hI (by omega) (by omega) (by omega) (by omega) (by omega) (fun rr χ hIχ hFχ hpχ => hQ rr χ hIχ (fr_tr (fr_rf) hFχ (by decide)) hpχ)
      · skip
        refine ⟨by omega, by omega, ?_⟩
        have f5 := iv_ar (a := 15) (s := 0) (t := 8) (lo := (-2147483648 : Int)) (u := 2147483647) (z := l2) hI (by decide +kernel) (by omega) (by omega)
        have f6 := hr_and (φ 15 ((l2).toNat)) l1
        refine ⟨by unfold hi; omega, fun q5 => ?_, fun q5 => ?_⟩
        · skip
          exact ih φ (jm_st1 L 2 (0, l2 + 1)) l1 (l2 + 1) (get_st1 g0 (by decide) (fun q => absurd q.1 (by decide))) (get_st1 g1 (by decide) (fun q => tg0 q.2)) get_st1e hI (by omega) (by omega) (by omega) (by omega) (by omega) (fun rr χ hIχ hFχ hpχ => hQ rr χ hIχ (fr_tr (fr_rf) hFχ (by decide)) hpχ)
        · skip
          exact hQ 0 φ hI (fr_rf) ⟨by omega, by omega⟩
theorem sf_113_187_v {sc : List Int} {d : Nat} {φ : hf_F} {x : Nat} {Q : Option jm_V → hf_F → Nat → Prop} {v1 : Int}
    (H : hw sc d 113 2 (jm_st1 [(0, (2, 187)), (1, (0, v1))] 2 (0, 0)) [] φ x Q) :
    hw sc d 113 0 [(0, (2, 187)), (1, (0, v1))] [] φ x Q := by
  refine hw_k (c := 0) (b := 0) (e := 1) (by decide +kernel) ?_
  refine hw_st (L' := (jm_st1 [(0, (2, 187)), (1, (0, v1))] 2 (0, 0))) (b := 2) (e := 0) (by decide +kernel) rfl ?_
  exact H
theorem sf_113_187 {sc : List Int} {d : Nat} {φ : hf_F} {x : Nat} {Q : Option jm_V → hf_F → Nat → Prop} {v1 : Int} (hI : Inv φ) (h1a : (-2147483648 : Int) ≤ v1) (h1b : v1 ≤ 2147483647) (hQ : ∀ (r : Int) (ψ : hf_F), Inv ψ → Fr [] φ ψ → 0 ≤ r ∧ r ≤ 1 → Q (some (0, r)) ψ x) : hw sc d 113 0 [(0, (2, 187)), (1, (0, v1))] [] φ x Q := by
  apply sf_113_187_v
  exact sf_113_187_l2 ((8 - 0 : Int).toNat + 1) φ (jm_st1 [(0, (2, 187)), (1, (0, v1))] 2 (0, 0)) v1 0 (get_st1 rfl (by decide) (fun q => absurd q.1 (by decide))) (get_st1 rfl (by decide) (fun q => tg0 q.2)) get_st1e hI (by omega) (by omega) (by omega) (by omega) (by omega) (fun rr χ hIχ hFχ hpχ => hQ rr χ hIχ (fr_tr (fr_rf) hFχ (by decide)) hpχ)
theorem sf_45_31_k1_4_v {sc : List Int} {d : Nat} {φ : hf_F} {x : Nat} {Q : Option jm_V → hf_F → Nat → Prop} {v2 : Int}
    (H : 0 ≤ (32 + (φ 32 4)) ∧ (32 + (φ 32 4)) < 40 ∧ (Q (some (0, φ 32 4)) (hf_up (hf_up φ 33 ((32 + (φ 32 4)).toNat) v2) 32 4 ((φ 32 4) + 1)) x)) :
    hw sc d 45 0 [(0, (2, 31)), (1, (0, 4)), (2, (1, v2))] [] φ x Q := by
  refine hw_ald (b := 0) (e := 0) (by decide +kernel) rfl (by decide) ?_
  refine hr_gr (w := 32) (b := 3) (e := 0) 31 rfl (by decide +kernel) ?_
  refine hw_ld (b := 1) (e := 0) (by decide +kernel) rfl ?_
  refine hr_al (b := 0) (a0 := 0) (e := 0) (n := 5) (w := φ 32 4) 32 rfl (by decide +kernel) (by decide) (by decide) (by decide) rfl ?_
  refine hw_st (L' := (jm_st1 [(0, (2, 31)), (1, (0, 4)), (2, (1, v2))] 4 (0, φ 32 4))) (b := 4) (e := 1) (by decide +kernel) rfl ?_
  refine hw_ald (b := 0) (e := 0) (by decide +kernel) (get_st1 rfl (by decide) (fun q => absurd q.1 (by decide))) (by decide) ?_
  refine hr_gr (w := 33) (b := 3) (e := 1) 31 rfl (by decide +kernel) ?_
  refine hw_ld (b := 1) (e := 0) (by decide +kernel) (get_st1 rfl (by decide) (fun q => absurd q.1 (by decide))) ?_
  refine hw_k (c := 8) (b := 1) (e := 2) (by decide +kernel) ?_
  refine hw_bin (w := 32) (a0 := 0) (b := 2) (e := 0) (by decide +kernel) rfl ?_
  refine hw_ld (b := 4) (e := 1) (by decide +kernel) get_st1e ?_
  refine hw_bin (w := 32 + (φ 32 4)) (a0 := 0) (b := 0) (e := 0) (by decide +kernel) rfl ?_
  refine hw_lld (b := 2) (e := 0) (by decide +kernel) (get_st1 rfl (by decide) (fun q => absurd q.1 (by decide))) ?_
  obtain ⟨hl1, hu1, H⟩ := H
  refine hr_asl (a0 := 0) (e := 4) (n := 40) 33 rfl (by decide +kernel) hl1 hu1 ?_
  refine hw_ald (b := 0) (e := 0) (by decide +kernel) (get_st1 rfl (by decide) (fun q => absurd q.1 (by decide))) (by decide) ?_
  refine hr_gr (w := 32) (b := 3) (e := 0) 31 rfl (by decide +kernel) ?_
  refine hw_ld (b := 1) (e := 0) (by decide +kernel) (get_st1 rfl (by decide) (fun q => absurd q.1 (by decide))) ?_
  refine hw_dup2 (a0 := 0) (e := 0) (by decide +kernel) (by decide) (by decide) ?_
  refine hr_al (b := 0) (a0 := 0) (e := 0) (n := 5) (w := φ 32 4) 32 rfl (by decide +kernel) (by decide) (by decide) (by decide) (hf_up_ne (fun q => absurd q.1 (by decide))) ?_
  refine hw_k (c := 1) (b := 0) (e := 1) (by decide +kernel) ?_
  refine hw_bin (w := (φ 32 4) + 1) (a0 := 0) (b := 0) (e := 0) (by decide +kernel) rfl ?_
  refine hr_as (a0 := 0) (e := 4) (n := 5) 32 rfl (by decide +kernel) (by decide) (by decide) ?_
  refine hw_ld (b := 4) (e := 1) (by decide +kernel) get_st1e ?_
  exact hw_ret (a0 := 0) (e := 0) (by decide +kernel) (Or.inl rfl) H
theorem sf_45_31_k1_4 {sc : List Int} {d : Nat} {φ : hf_F} {x : Nat} {Q : Option jm_V → hf_F → Nat → Prop} {v2 : Int} (hI : Inv φ) (hx0 : 0 ≤ φ 32 4 ∧ φ 32 4 ≤ 7) (hQ : ∀ (r : Int) (ψ : hf_F), Inv ψ → Fr [32, 33] φ ψ → 0 ≤ r ∧ r ≤ 7 ∧ r ≤ 7 → Q (some (0, r)) ψ x) : hw sc d 45 0 [(0, (2, 31)), (1, (0, 4)), (2, (1, v2))] [] φ x Q := by
  apply sf_45_31_k1_4_v
  have f1 := iv_at (a := 32) (k := 4) (lo := 0) (u := 8) hI (by decide +kernel)
  refine ⟨by omega, by omega, ?_⟩
  have i2 : Inv (hf_up φ 33 ((32 + (φ 32 4)).toNat) v2) := iv_upIn hI (by decide) (by decide +kernel)
  have r2 : Fr [32, 33] φ (hf_up φ 33 ((32 + (φ 32 4)).toNat) v2) := fr_up (fr_rf) (by decide)
  have i3 : Inv (hf_up (hf_up φ 33 ((32 + (φ 32 4)).toNat) v2) 32 4 ((φ 32 4) + 1)) := iv_up (lo := 0) (u := 8) i2 (by decide +kernel) (by omega) (by omega)
  have r3 : Fr [32, 33] φ (hf_up (hf_up φ 33 ((32 + (φ 32 4)).toNat) v2) 32 4 ((φ 32 4) + 1)) := fr_up r2 (by decide)
  exact hQ (φ 32 4) (hf_up (hf_up φ 33 ((32 + (φ 32 4)).toNat) v2) 32 4 ((φ 32 4) + 1)) i3 r3 ⟨by omega, by omega, by intros; omega⟩
theorem sf_57_31_v {sc : List Int} {d : Nat} {φ : hf_F} {x : Nat} {Q : Option jm_V → hf_F → Nat → Prop} {v1 v3 v4 : Int}
    (H : hw sc d 45 0 [(0, (2, 31)), (1, (0, 4)), (2, (1, v1))] [] φ x (fun r ψ1 y1 => y1 = x ∧ (∃ z1 : Int, r = some (0, z1) ∧ (0 ≤ z1 ∧ z1 < 8 ∧ (0 ≤ z1 ∧ z1 < 8 ∧ (0 ≤ ((v3 * 8) + v4) ∧ ((v3 * 8) + v4) < 64 ∧ (Q none (hf_up (hf_up (hf_up ψ1 39 ((z1).toNat) v3) 40 ((z1).toNat) v4) 42 (((v3 * 8) + v4).toNat) z1) x))))))) :
    hw sc (d + 1) 57 0 [(0, (2, 31)), (1, (1, v1)), (3, (0, v3)), (4, (0, v4))] [] φ x Q := by
  refine hw_ald (b := 0) (e := 0) (by decide +kernel) rfl (by decide) ?_
  refine hw_k (c := 4) (b := 0) (e := 1) (by decide +kernel) ?_
  refine hw_lld (b := 1) (e := 0) (by decide +kernel) rfl ?_
  refine hr_call (a0 := 13) (b := 45) (e := 3) (nl := 5) (As := [(0, 4), (1, v1)]) (R := []) 31 rfl (by decide +kernel) rfl rfl (Nat.le_of_ble_eq_true rfl) (Nat.le_of_ble_eq_true rfl) ?_
  refine hw_mono H ?_
  rintro r ψ1 y1 ⟨hyx, z1, hr, H⟩
  subst hyx
  subst hr
  refine ⟨hne0, ?_⟩
  show hw sc (d + 1) 57 6 [(0, (2, 31)), (1, (1, v1)), (3, (0, v3)), (4, (0, v4))] [(0, z1)] ψ1 y1 Q
  refine hw_st (L' := (jm_st1 [(0, (2, 31)), (1, (1, v1)), (3, (0, v3)), (4, (0, v4))] 5 (0, z1))) (b := 5) (e := 1) (by decide +kernel) rfl ?_
  refine hw_ald (b := 0) (e := 0) (by decide +kernel) (get_st1 rfl (by decide) (fun q => absurd q.1 (by decide))) (by decide) ?_
  refine hr_gr (w := 39) (b := 3) (e := 7) 31 rfl (by decide +kernel) ?_
  refine hw_ld (b := 5) (e := 1) (by decide +kernel) get_st1e ?_
  refine hw_ld (b := 3) (e := 0) (by decide +kernel) (get_st1 rfl (by decide) (fun q => absurd q.1 (by decide))) ?_
  obtain ⟨hl2, hu2, H⟩ := H
  refine hr_as (a0 := 0) (e := 4) (n := 8) 39 rfl (by decide +kernel) hl2 hu2 ?_
  refine hw_ald (b := 0) (e := 0) (by decide +kernel) (get_st1 rfl (by decide) (fun q => absurd q.1 (by decide))) (by decide) ?_
  refine hr_gr (w := 40) (b := 3) (e := 8) 31 rfl (by decide +kernel) ?_
  refine hw_ld (b := 5) (e := 1) (by decide +kernel) get_st1e ?_
  refine hw_ld (b := 4) (e := 1) (by decide +kernel) (get_st1 rfl (by decide) (fun q => tg0 q.2)) ?_
  obtain ⟨hl3, hu3, H⟩ := H
  refine hr_as (a0 := 0) (e := 4) (n := 8) 40 rfl (by decide +kernel) hl3 hu3 ?_
  refine hw_ald (b := 0) (e := 0) (by decide +kernel) (get_st1 rfl (by decide) (fun q => absurd q.1 (by decide))) (by decide) ?_
  refine hr_gr (w := 42) (b := 3) (e := 10) 31 rfl (by decide +kernel) ?_
  refine hw_ld (b := 3) (e := 0) (by decide +kernel) (get_st1 rfl (by decide) (fun q => absurd q.1 (by decide))) ?_
  refine hw_k (c := 8) (b := 1) (e := 2) (by decide +kernel) ?_
  refine hw_bin (w := v3 * 8) (a0 := 0) (b := 2) (e := 0) (by decide +kernel) rfl ?_
  refine hw_ld (b := 4) (e := 1) (by decide +kernel) (get_st1 rfl (by decide) (fun q => tg0 q.2)) ?_
  refine hw_bin (w := (v3 * 8) + v4) (a0 := 0) (b := 0) (e := 0) (by decide +kernel) rfl ?_
  refine hw_ld (b := 5) (e := 1) (by decide +kernel) get_st1e ?_
  obtain ⟨hl4, hu4, H⟩ := H
  refine hr_as (a0 := 0) (e := 4) (n := 64) 42 rfl (by decide +kernel) hl4 hu4 ?_
  exact hw_vret (a0 := 0) (e := 0) (by decide +kernel) H
theorem sf_57_31 {sc : List Int} {d : Nat} {φ : hf_F} {x : Nat} {Q : Option jm_V → hf_F → Nat → Prop} {v1 v3 v4 : Int} (hI : Inv φ) (h3a : 0 ≤ v3) (h3b : v3 ≤ 7) (h4a : 0 ≤ v4) (h4b : v4 ≤ 7) (hx0 : 0 ≤ φ 32 4 ∧ φ 32 4 ≤ 7) (hQ : ∀ ψ : hf_F, Inv ψ → Fr [32, 33, 39, 40, 42] φ ψ → Q none ψ x) : hw sc (d + 1) 57 0 [(0, (2, 31)), (1, (1, v1)), (3, (0, v3)), (4, (0, v4))] [] φ x Q := by
  apply sf_57_31_v
  have f1 := iv_at (a := 32) (k := 4) (lo := 0) (u := 8) hI (by decide +kernel)
  refine sf_45_31_k1_4 (φ := φ) hI (by rw [show φ 32 4 = φ 32 4 from rfl]; constructor <;> omega) (fun z1 ψ1 hI1 hF1 hp1 => ⟨rfl, z1, rfl, ?_⟩)
  have hG1 : Fr [32, 33, 39, 40, 42] φ ψ1 := fr_tr (fr_rf) hF1 (by decide)
  refine ⟨by omega, by omega, ?_⟩
  have i2 : Inv (hf_up ψ1 39 ((z1).toNat) v3) := iv_upI (s := 0) (t := 8) (lo := 0) (u := 7) (z := z1) hI1 (by decide +kernel) (by omega) (by omega) (by omega) (by omega)
  have r2 : Fr [32, 33, 39, 40, 42] φ (hf_up ψ1 39 ((z1).toNat) v3) := fr_up hG1 (by decide)
  refine ⟨by omega, by omega, ?_⟩
  have i3 : Inv (hf_up (hf_up ψ1 39 ((z1).toNat) v3) 40 ((z1).toNat) v4) := iv_upI (s := 0) (t := 8) (lo := 0) (u := 7) (z := z1) i2 (by decide +kernel) (by omega) (by omega) (by omega) (by omega)
  have r3 : Fr [32, 33, 39, 40, 42] φ (hf_up (hf_up ψ1 39 ((z1).toNat) v3) 40 ((z1).toNat) v4) := fr_up r2 (by decide)
  refine ⟨by omega, by omega, ?_⟩
  have i4 : Inv (hf_up (hf_up (hf_up ψ1 39 ((z1).toNat) v3) 40 ((z1).toNat) v4) 42 (((v3 * 8) + v4).toNat) z1) := iv_upI (s := 0) (t := 64) (lo := (-1 : Int)) (u := 7) (z := (v3 * 8) + v4) i3 (by decide +kernel) (by omega) (by omega) (by omega) (by omega)
  have r4 : Fr [32, 33, 39, 40, 42] φ (hf_up (hf_up (hf_up ψ1 39 ((z1).toNat) v3) 40 ((z1).toNat) v4) 42 (((v3 * 8) + v4).toNat) z1) := fr_up r3 (by decide)
  exact hQ (hf_up (hf_up (hf_up ψ1 39 ((z1).toNat) v3) 40 ((z1).toNat) v4) 42 (((v3 * 8) + v4).toNat) z1) i4 r4
theorem sf_59_31_v {sc : List Int} {d : Nat} {φ : hf_F} {x : Nat} {Q : Option jm_V → hf_F → Nat → Prop} {v1 v2 : Int}
    (H : 0 ≤ v1 ∧ v1 < 8 ∧ (0 ≤ v1 ∧ v1 < 8 ∧ (0 ≤ v2 ∧ v2 < 8 ∧ (0 ≤ v2 ∧ v2 < 8 ∧ (Q none (hf_up (hf_up φ 41 ((v1).toNat) (hb_or (φ 41 ((v1).toNat)) (hb_shl 1 v2))) 41 ((v2).toNat) (hb_or ((hf_up φ 41 ((v1).toNat) (hb_or (φ 41 ((v1).toNat)) (hb_shl 1 v2))) 41 ((v2).toNat)) (hb_shl 1 v1))) x))))) :
    hw sc d 59 0 [(0, (2, 31)), (1, (0, v1)), (2, (0, v2))] [] φ x Q := by
  refine hw_ald (b := 0) (e := 0) (by decide +kernel) rfl (by decide) ?_
  refine hr_gr (w := 41) (b := 3) (e := 9) 31 rfl (by decide +kernel) ?_
  refine hw_ld (b := 1) (e := 0) (by decide +kernel) rfl ?_
  refine hw_dup2 (a0 := 0) (e := 0) (by decide +kernel) (by decide) (by decide) ?_
  obtain ⟨hl1, hu1, H⟩ := H
  refine hr_al (b := 0) (a0 := 0) (e := 0) (n := 8) (w := φ 41 ((v1).toNat)) 41 rfl (by decide +kernel) (by decide) hl1 hu1 rfl ?_
  refine hw_k (c := 1) (b := 0) (e := 1) (by decide +kernel) ?_
  refine hw_ld (b := 2) (e := 0) (by decide +kernel) rfl ?_
  refine hw_bin (w := hb_shl 1 v2) (a0 := 0) (b := 6) (e := 0) (by decide +kernel) rfl ?_
  refine hw_bin (w := hb_or (φ 41 ((v1).toNat)) (hb_shl 1 v2)) (a0 := 0) (b := 4) (e := 0) (by decide +kernel) rfl ?_
  obtain ⟨hl2, hu2, H⟩ := H
  refine hr_as (a0 := 0) (e := 4) (n := 8) 41 rfl (by decide +kernel) hl2 hu2 ?_
  refine hw_ald (b := 0) (e := 0) (by decide +kernel) rfl (by decide) ?_
  refine hr_gr (w := 41) (b := 3) (e := 9) 31 rfl (by decide +kernel) ?_
  refine hw_ld (b := 2) (e := 0) (by decide +kernel) rfl ?_
  refine hw_dup2 (a0 := 0) (e := 0) (by decide +kernel) (by decide) (by decide) ?_
  obtain ⟨hl3, hu3, H⟩ := H
  refine hr_al (b := 0) (a0 := 0) (e := 0) (n := 8) (w := (hf_up φ 41 ((v1).toNat) (hb_or (φ 41 ((v1).toNat)) (hb_shl 1 v2))) 41 ((v2).toNat)) 41 rfl (by decide +kernel) (by decide) hl3 hu3 rfl ?_
  refine hw_k (c := 1) (b := 0) (e := 1) (by decide +kernel) ?_
  refine hw_ld (b := 1) (e := 0) (by decide +kernel) rfl ?_
  refine hw_bin (w := hb_shl 1 v1) (a0 := 0) (b := 6) (e := 0) (by decide +kernel) rfl ?_
  refine hw_bin (w := hb_or ((hf_up φ 41 ((v1).toNat) (hb_or (φ 41 ((v1).toNat)) (hb_shl 1 v2))) 41 ((v2).toNat)) (hb_shl 1 v1)) (a0 := 0) (b := 4) (e := 0) (by decide +kernel) rfl ?_
  obtain ⟨hl4, hu4, H⟩ := H
  refine hr_as (a0 := 0) (e := 4) (n := 8) 41 rfl (by decide +kernel) hl4 hu4 ?_
  exact hw_vret (a0 := 0) (e := 0) (by decide +kernel) H
theorem sf_59_31 {sc : List Int} {d : Nat} {φ : hf_F} {x : Nat} {Q : Option jm_V → hf_F → Nat → Prop} {v1 v2 : Int} (hI : Inv φ) (h1a : 0 ≤ v1) (h1b : v1 ≤ 7) (h2a : 0 ≤ v2) (h2b : v2 ≤ 7) (hQ : ∀ ψ : hf_F, Inv ψ → Fr [41] φ ψ → Q none ψ x) : hw sc d 59 0 [(0, (2, 31)), (1, (0, v1)), (2, (0, v2))] [] φ x Q := by
  apply sf_59_31_v
  refine ⟨by omega, by omega, ?_⟩
  have f1 := iv_ar (a := 41) (s := 0) (t := 8) (lo := (-2147483648 : Int)) (u := 2147483647) (z := v1) hI (by decide +kernel) (by omega) (by omega)
  have f2 := hr_shl 1 v2
  have f3 := hr_or (φ 41 ((v1).toNat)) (hb_shl 1 v2)
  refine ⟨by omega, by omega, ?_⟩
  have i4 : Inv (hf_up φ 41 ((v1).toNat) (hb_or (φ 41 ((v1).toNat)) (hb_shl 1 v2))) := iv_upI (s := 0) (t := 8) (lo := (-2147483648 : Int)) (u := 2147483647) (z := v1) hI (by decide +kernel) (by omega) (by omega) (by omega) (by omega)
  have r4 : Fr [41] φ (hf_up φ 41 ((v1).toNat) (hb_or (φ 41 ((v1).toNat)) (hb_shl 1 v2))) := fr_up (fr_rf) (by decide)
  refine ⟨by omega, by omega, ?_⟩
  have f5 := iv_ar (a := 41) (s := 0) (t := 8) (lo := (-2147483648 : Int)) (u := 2147483647) (z := v2) i4 (by decide +kernel) (by omega) (by omega)
  have f6 := hr_shl 1 v1
  have f7 := hr_or ((hf_up φ 41 ((v1).toNat) (hb_or (φ 41 ((v1).toNat)) (hb_shl 1 v2))) 41 ((v2).toNat)) (hb_shl 1 v1)
  refine ⟨by omega, by omega, ?_⟩
  have i8 : Inv (hf_up (hf_up φ 41 ((v1).toNat) (hb_or (φ 41 ((v1).toNat)) (hb_shl 1 v2))) 41 ((v2).toNat) (hb_or ((hf_up φ 41 ((v1).toNat) (hb_or (φ 41 ((v1).toNat)) (hb_shl 1 v2))) 41 ((v2).toNat)) (hb_shl 1 v1))) := iv_upI (s := 0) (t := 8) (lo := (-2147483648 : Int)) (u := 2147483647) (z := v2) i4 (by decide +kernel) (by omega) (by omega) (by omega) (by omega)
  have r8 : Fr [41] φ (hf_up (hf_up φ 41 ((v1).toNat) (hb_or (φ 41 ((v1).toNat)) (hb_shl 1 v2))) 41 ((v2).toNat) (hb_or ((hf_up φ 41 ((v1).toNat) (hb_or (φ 41 ((v1).toNat)) (hb_shl 1 v2))) 41 ((v2).toNat)) (hb_shl 1 v1))) := fr_up r4 (by decide)
  exact hQ (hf_up (hf_up φ 41 ((v1).toNat) (hb_or (φ 41 ((v1).toNat)) (hb_shl 1 v2))) 41 ((v2).toNat) (hb_or ((hf_up φ 41 ((v1).toNat) (hb_or (φ 41 ((v1).toNat)) (hb_shl 1 v2))) 41 ((v2).toNat)) (hb_shl 1 v1))) i8 r8
theorem sf_65_5_83_v {sc : List Int} {d : Nat} {φ : hf_F} {x : Nat} {Q : Option jm_V → hf_F → Nat → Prop} 
    (H : Q none (hf_cp (hf_cp (hf_cp (hf_cp (hf_cp (hf_cp (hf_cp (hf_cp (hf_cp (hf_cp (hf_cp φ 84 6 5) 85 7 40) 86 8 3) 87 9 3) 88 10 8) 89 11 8) 90 12 8) 91 13 8) 92 14 8) 93 15 8) 94 16 64) x) :
    hw sc d 65 0 [(0, (2, 5)), (1, (2, 83))] [] φ x Q := by
  refine hw_ald (b := 1) (e := 0) (by decide +kernel) rfl (by decide) ?_
  refine hr_gr (w := 84) (b := 3) (e := 0) 83 rfl (by decide +kernel) ?_
  refine hw_k (c := 0) (b := 0) (e := 1) (by decide +kernel) ?_
  refine hw_ald (b := 0) (e := 0) (by decide +kernel) rfl (by decide) ?_
  refine hr_gr (w := 6) (b := 3) (e := 0) 5 rfl (by decide +kernel) ?_
  refine hw_k (c := 0) (b := 0) (e := 1) (by decide +kernel) ?_
  refine hw_k (c := 5) (b := 0) (e := 1) (by decide +kernel) ?_
  refine hr_cp (a0 := 0) (b0 := 0) (e := 0) 84 6 5 rfl rfl rfl (by decide +kernel) (Nat.le_of_ble_eq_true rfl) ?_
  refine hw_ald (b := 1) (e := 0) (by decide +kernel) rfl (by decide) ?_
  refine hr_gr (w := 85) (b := 3) (e := 1) 83 rfl (by decide +kernel) ?_
  refine hw_k (c := 0) (b := 0) (e := 1) (by decide +kernel) ?_
  refine hw_ald (b := 0) (e := 0) (by decide +kernel) rfl (by decide) ?_
  refine hr_gr (w := 7) (b := 3) (e := 1) 5 rfl (by decide +kernel) ?_
  refine hw_k (c := 0) (b := 0) (e := 1) (by decide +kernel) ?_
  refine hw_k (c := 40) (b := 1) (e := 2) (by decide +kernel) ?_
  refine hr_cp (a0 := 0) (b0 := 0) (e := 0) 85 7 40 rfl rfl rfl (by decide +kernel) (Nat.le_of_ble_eq_true rfl) ?_
  refine hw_ald (b := 1) (e := 0) (by decide +kernel) rfl (by decide) ?_
  refine hr_gr (w := 86) (b := 3) (e := 2) 83 rfl (by decide +kernel) ?_
  refine hw_k (c := 0) (b := 0) (e := 1) (by decide +kernel) ?_
  refine hw_ald (b := 0) (e := 0) (by decide +kernel) rfl (by decide) ?_
  refine hr_gr (w := 8) (b := 3) (e := 2) 5 rfl (by decide +kernel) ?_
  refine hw_k (c := 0) (b := 0) (e := 1) (by decide +kernel) ?_
  refine hw_k (c := 3) (b := 0) (e := 1) (by decide +kernel) ?_
  refine hr_cp (a0 := 0) (b0 := 0) (e := 0) 86 8 3 rfl rfl rfl (by decide +kernel) (Nat.le_of_ble_eq_true rfl) ?_
  refine hw_ald (b := 1) (e := 0) (by decide +kernel) rfl (by decide) ?_
  refine hr_gr (w := 87) (b := 3) (e := 3) 83 rfl (by decide +kernel) ?_
  refine hw_k (c := 0) (b := 0) (e := 1) (by decide +kernel) ?_
  refine hw_ald (b := 0) (e := 0) (by decide +kernel) rfl (by decide) ?_
  refine hr_gr (w := 9) (b := 3) (e := 3) 5 rfl (by decide +kernel) ?_
  refine hw_k (c := 0) (b := 0) (e := 1) (by decide +kernel) ?_
  refine hw_k (c := 3) (b := 0) (e := 1) (by decide +kernel) ?_
  refine hr_cp (a0 := 0) (b0 := 0) (e := 0) 87 9 3 rfl rfl rfl (by decide +kernel) (Nat.le_of_ble_eq_true rfl) ?_
  refine hw_ald (b := 1) (e := 0) (by decide +kernel) rfl (by decide) ?_
  refine hr_gr (w := 88) (b := 3) (e := 4) 83 rfl (by decide +kernel) ?_
  refine hw_k (c := 0) (b := 0) (e := 1) (by decide +kernel) ?_
  refine hw_ald (b := 0) (e := 0) (by decide +kernel) rfl (by decide) ?_
  refine hr_gr (w := 10) (b := 3) (e := 4) 5 rfl (by decide +kernel) ?_
  refine hw_k (c := 0) (b := 0) (e := 1) (by decide +kernel) ?_
  refine hw_k (c := 8) (b := 1) (e := 2) (by decide +kernel) ?_
  refine hr_cp (a0 := 0) (b0 := 0) (e := 0) 88 10 8 rfl rfl rfl (by decide +kernel) (Nat.le_of_ble_eq_true rfl) ?_
  refine hw_ald (b := 1) (e := 0) (by decide +kernel) rfl (by decide) ?_
  refine hr_gr (w := 89) (b := 3) (e := 5) 83 rfl (by decide +kernel) ?_
  refine hw_k (c := 0) (b := 0) (e := 1) (by decide +kernel) ?_
  refine hw_ald (b := 0) (e := 0) (by decide +kernel) rfl (by decide) ?_
  refine hr_gr (w := 11) (b := 3) (e := 5) 5 rfl (by decide +kernel) ?_
  refine hw_k (c := 0) (b := 0) (e := 1) (by decide +kernel) ?_
  refine hw_k (c := 8) (b := 1) (e := 2) (by decide +kernel) ?_
  refine hr_cp (a0 := 0) (b0 := 0) (e := 0) 89 11 8 rfl rfl rfl (by decide +kernel) (Nat.le_of_ble_eq_true rfl) ?_
  refine hw_ald (b := 1) (e := 0) (by decide +kernel) rfl (by decide) ?_
  refine hr_gr (w := 90) (b := 3) (e := 6) 83 rfl (by decide +kernel) ?_
  refine hw_k (c := 0) (b := 0) (e := 1) (by decide +kernel) ?_
  refine hw_ald (b := 0) (e := 0) (by decide +kernel) rfl (by decide) ?_
  refine hr_gr (w := 12) (b := 3) (e := 6) 5 rfl (by decide +kernel) ?_
  refine hw_k (c := 0) (b := 0) (e := 1) (by decide +kernel) ?_
  refine hw_k (c := 8) (b := 1) (e := 2) (by decide +kernel) ?_
  refine hr_cp (a0 := 0) (b0 := 0) (e := 0) 90 12 8 rfl rfl rfl (by decide +kernel) (Nat.le_of_ble_eq_true rfl) ?_
  refine hw_ald (b := 1) (e := 0) (by decide +kernel) rfl (by decide) ?_
  refine hr_gr (w := 91) (b := 3) (e := 7) 83 rfl (by decide +kernel) ?_
  refine hw_k (c := 0) (b := 0) (e := 1) (by decide +kernel) ?_
  refine hw_ald (b := 0) (e := 0) (by decide +kernel) rfl (by decide) ?_
  refine hr_gr (w := 13) (b := 3) (e := 7) 5 rfl (by decide +kernel) ?_
  refine hw_k (c := 0) (b := 0) (e := 1) (by decide +kernel) ?_
  refine hw_k (c := 8) (b := 1) (e := 2) (by decide +kernel) ?_
  refine hr_cp (a0 := 0) (b0 := 0) (e := 0) 91 13 8 rfl rfl rfl (by decide +kernel) (Nat.le_of_ble_eq_true rfl) ?_
  refine hw_ald (b := 1) (e := 0) (by decide +kernel) rfl (by decide) ?_
  refine hr_gr (w := 92) (b := 3) (e := 8) 83 rfl (by decide +kernel) ?_
  refine hw_k (c := 0) (b := 0) (e := 1) (by decide +kernel) ?_
  refine hw_ald (b := 0) (e := 0) (by decide +kernel) rfl (by decide) ?_
  refine hr_gr (w := 14) (b := 3) (e := 8) 5 rfl (by decide +kernel) ?_
  refine hw_k (c := 0) (b := 0) (e := 1) (by decide +kernel) ?_
  refine hw_k (c := 8) (b := 1) (e := 2) (by decide +kernel) ?_
  refine hr_cp (a0 := 0) (b0 := 0) (e := 0) 92 14 8 rfl rfl rfl (by decide +kernel) (Nat.le_of_ble_eq_true rfl) ?_
  refine hw_ald (b := 1) (e := 0) (by decide +kernel) rfl (by decide) ?_
  refine hr_gr (w := 93) (b := 3) (e := 9) 83 rfl (by decide +kernel) ?_
  refine hw_k (c := 0) (b := 0) (e := 1) (by decide +kernel) ?_
  refine hw_ald (b := 0) (e := 0) (by decide +kernel) rfl (by decide) ?_
  refine hr_gr (w := 15) (b := 3) (e := 9) 5 rfl (by decide +kernel) ?_
  refine hw_k (c := 0) (b := 0) (e := 1) (by decide +kernel) ?_
  refine hw_k (c := 8) (b := 1) (e := 2) (by decide +kernel) ?_
  refine hr_cp (a0 := 0) (b0 := 0) (e := 0) 93 15 8 rfl rfl rfl (by decide +kernel) (Nat.le_of_ble_eq_true rfl) ?_
  refine hw_ald (b := 1) (e := 0) (by decide +kernel) rfl (by decide) ?_
  refine hr_gr (w := 94) (b := 3) (e := 10) 83 rfl (by decide +kernel) ?_
  refine hw_k (c := 0) (b := 0) (e := 1) (by decide +kernel) ?_
  refine hw_ald (b := 0) (e := 0) (by decide +kernel) rfl (by decide) ?_
  refine hr_gr (w := 16) (b := 3) (e := 10) 5 rfl (by decide +kernel) ?_
  refine hw_k (c := 0) (b := 0) (e := 1) (by decide +kernel) ?_
  refine hw_k (c := 64) (b := 1) (e := 2) (by decide +kernel) ?_
  refine hr_cp (a0 := 0) (b0 := 0) (e := 0) 94 16 64 rfl rfl rfl (by decide +kernel) (Nat.le_of_ble_eq_true rfl) ?_
  exact hw_vret (a0 := 0) (e := 0) (by decide +kernel) H
theorem sf_65_5_83 {sc : List Int} {d : Nat} {φ : hf_F} {x : Nat} {Q : Option jm_V → hf_F → Nat → Prop}  (hI : Inv φ)  (hQ : ∀ ψ : hf_F, Inv ψ → Fr [6, 7, 8, 9, 10, 11, 12, 13, 14, 15, 16] φ ψ → Q none ψ x) : hw sc d 65 0 [(0, (2, 5)), (1, (2, 83))] [] φ x Q := by
  apply sf_65_5_83_v
  have i1 : Inv (hf_cp φ 84 6 5) := iv_cp hI (by decide) (by decide +kernel)
  have r1 : Fr [6, 7, 8, 9, 10, 11, 12, 13, 14, 15, 16] φ (hf_cp φ 84 6 5) := fr_cp (fr_rf) (by decide)
  have i2 : Inv (hf_cp (hf_cp φ 84 6 5) 85 7 40) := iv_cp i1 (by decide) (by decide +kernel)
  have r2 : Fr [6, 7, 8, 9, 10, 11, 12, 13, 14, 15, 16] φ (hf_cp (hf_cp φ 84 6 5) 85 7 40) := fr_cp r1 (by decide)
  have i3 : Inv (hf_cp (hf_cp (hf_cp φ 84 6 5) 85 7 40) 86 8 3) := iv_cp i2 (by decide) (by decide +kernel)
  have r3 : Fr [6, 7, 8, 9, 10, 11, 12, 13, 14, 15, 16] φ (hf_cp (hf_cp (hf_cp φ 84 6 5) 85 7 40) 86 8 3) := fr_cp r2 (by decide)
  have i4 : Inv (hf_cp (hf_cp (hf_cp (hf_cp φ 84 6 5) 85 7 40) 86 8 3) 87 9 3) := iv_cp i3 (by decide) (by decide +kernel)
  have r4 : Fr [6, 7, 8, 9, 10, 11, 12, 13, 14, 15, 16] φ (hf_cp (hf_cp (hf_cp (hf_cp φ 84 6 5) 85 7 40) 86 8 3) 87 9 3) := fr_cp r3 (by decide)
  have i5 : Inv (hf_cp (hf_cp (hf_cp (hf_cp (hf_cp φ 84 6 5) 85 7 40) 86 8 3) 87 9 3) 88 10 8) := iv_cp i4 (by decide) (by decide +kernel)
  have r5 : Fr [6, 7, 8, 9, 10, 11, 12, 13, 14, 15, 16] φ (hf_cp (hf_cp (hf_cp (hf_cp (hf_cp φ 84 6 5) 85 7 40) 86 8 3) 87 9 3) 88 10 8) := fr_cp r4 (by decide)
  have i6 : Inv (hf_cp (hf_cp (hf_cp (hf_cp (hf_cp (hf_cp φ 84 6 5) 85 7 40) 86 8 3) 87 9 3) 88 10 8) 89 11 8) := iv_cp i5 (by decide) (by decide +kernel)
  have r6 : Fr [6, 7, 8, 9, 10, 11, 12, 13, 14, 15, 16] φ (hf_cp (hf_cp (hf_cp (hf_cp (hf_cp (hf_cp φ 84 6 5) 85 7 40) 86 8 3) 87 9 3) 88 10 8) 89 11 8) := fr_cp r5 (by decide)
  have i7 : Inv (hf_cp (hf_cp (hf_cp (hf_cp (hf_cp (hf_cp (hf_cp φ 84 6 5) 85 7 40) 86 8 3) 87 9 3) 88 10 8) 89 11 8) 90 12 8) := iv_cp i6 (by decide) (by decide +kernel)
  have r7 : Fr [6, 7, 8, 9, 10, 11, 12, 13, 14, 15, 16] φ (hf_cp (hf_cp (hf_cp (hf_cp (hf_cp (hf_cp (hf_cp φ 84 6 5) 85 7 40) 86 8 3) 87 9 3) 88 10 8) 89 11 8) 90 12 8) := fr_cp r6 (by decide)
  have i8 : Inv (hf_cp (hf_cp (hf_cp (hf_cp (hf_cp (hf_cp (hf_cp (hf_cp φ 84 6 5) 85 7 40) 86 8 3) 87 9 3) 88 10 8) 89 11 8) 90 12 8) 91 13 8) := iv_cp i7 (by decide) (by decide +kernel)
  have r8 : Fr [6, 7, 8, 9, 10, 11, 12, 13, 14, 15, 16] φ (hf_cp (hf_cp (hf_cp (hf_cp (hf_cp (hf_cp (hf_cp (hf_cp φ 84 6 5) 85 7 40) 86 8 3) 87 9 3) 88 10 8) 89 11 8) 90 12 8) 91 13 8) := fr_cp r7 (by decide)
  have i9 : Inv (hf_cp (hf_cp (hf_cp (hf_cp (hf_cp (hf_cp (hf_cp (hf_cp (hf_cp φ 84 6 5) 85 7 40) 86 8 3) 87 9 3) 88 10 8) 89 11 8) 90 12 8) 91 13 8) 92 14 8) := iv_cp i8 (by decide) (by decide +kernel)
  have r9 : Fr [6, 7, 8, 9, 10, 11, 12, 13, 14, 15, 16] φ (hf_cp (hf_cp (hf_cp (hf_cp (hf_cp (hf_cp (hf_cp (hf_cp (hf_cp φ 84 6 5) 85 7 40) 86 8 3) 87 9 3) 88 10 8) 89 11 8) 90 12 8) 91 13 8) 92 14 8) := fr_cp r8 (by decide)
  have i10 : Inv (hf_cp (hf_cp (hf_cp (hf_cp (hf_cp (hf_cp (hf_cp (hf_cp (hf_cp (hf_cp φ 84 6 5) 85 7 40) 86 8 3) 87 9 3) 88 10 8) 89 11 8) 90 12 8) 91 13 8) 92 14 8) 93 15 8) := iv_cp i9 (by decide) (by decide +kernel)
  have r10 : Fr [6, 7, 8, 9, 10, 11, 12, 13, 14, 15, 16] φ (hf_cp (hf_cp (hf_cp (hf_cp (hf_cp (hf_cp (hf_cp (hf_cp (hf_cp (hf_cp φ 84 6 5) 85 7 40) 86 8 3) 87 9 3) 88 10 8) 89 11 8) 90 12 8) 91 13 8) 92 14 8) 93 15 8) := fr_cp r9 (by decide)
  have i11 : Inv (hf_cp (hf_cp (hf_cp (hf_cp (hf_cp (hf_cp (hf_cp (hf_cp (hf_cp (hf_cp (hf_cp φ 84 6 5) 85 7 40) 86 8 3) 87 9 3) 88 10 8) 89 11 8) 90 12 8) 91 13 8) 92 14 8) 93 15 8) 94 16 64) := iv_cp i10 (by decide) (by decide +kernel)
  have r11 : Fr [6, 7, 8, 9, 10, 11, 12, 13, 14, 15, 16] φ (hf_cp (hf_cp (hf_cp (hf_cp (hf_cp (hf_cp (hf_cp (hf_cp (hf_cp (hf_cp (hf_cp φ 84 6 5) 85 7 40) 86 8 3) 87 9 3) 88 10 8) 89 11 8) 90 12 8) 91 13 8) 92 14 8) 93 15 8) 94 16 64) := fr_cp r10 (by decide)
  exact hQ (hf_cp (hf_cp (hf_cp (hf_cp (hf_cp (hf_cp (hf_cp (hf_cp (hf_cp (hf_cp (hf_cp φ 84 6 5) 85 7 40) 86 8 3) 87 9 3) 88 10 8) 89 11 8) 90 12 8) 91 13 8) 92 14 8) 93 15 8) 94 16 64) i11 r11
theorem sf_66_17_95_v {sc : List Int} {d : Nat} {φ : hf_F} {x : Nat} {Q : Option jm_V → hf_F → Nat → Prop} 
    (H : Q none (hf_cp (hf_cp (hf_cp (hf_cp (hf_cp (hf_cp (hf_cp (hf_cp (hf_up (hf_up (hf_up (hf_up (hf_up (hf_up φ 17 0 (φ 95 0)) 17 1 (φ 95 1)) 17 2 (φ 95 2)) 17 3 (φ 95 3)) 17 4 (φ 95 4)) 17 5 (φ 95 5)) 96 18 8) 97 19 8) 98 20 6) 99 21 6) 100 22 36) 101 23 6) 102 24 6) 103 25 8) x) :
    hw sc d 66 0 [(0, (2, 17)), (1, (2, 95))] [] φ x Q := by
  refine hw_ald (b := 0) (e := 0) (by decide +kernel) rfl (by decide) ?_
  refine hw_ald (b := 1) (e := 0) (by decide +kernel) rfl (by decide) ?_
  refine hr_gi (w := φ 95 0) (b := 4) (e := 0) 95 rfl (by decide +kernel) rfl ?_
  refine hr_pi (b := 4) (e := 0) 17 rfl (by decide +kernel) ?_
  refine hw_ald (b := 0) (e := 0) (by decide +kernel) rfl (by decide) ?_
  refine hw_ald (b := 1) (e := 0) (by decide +kernel) rfl (by decide) ?_
  refine hr_gi (w := φ 95 1) (b := 4) (e := 1) 95 rfl (by decide +kernel) (hf_up_ne (fun q => absurd q.1 (by decide))) ?_
  refine hr_pi (b := 4) (e := 1) 17 rfl (by decide +kernel) ?_
  refine hw_ald (b := 0) (e := 0) (by decide +kernel) rfl (by decide) ?_
  refine hw_ald (b := 1) (e := 0) (by decide +kernel) rfl (by decide) ?_
  refine hr_gi (w := φ 95 2) (b := 4) (e := 2) 95 rfl (by decide +kernel) ((hf_up_ne (fun q => absurd q.1 (by decide))).trans (hf_up_ne (fun q => absurd q.1 (by decide)))) ?_
  refine hr_pi (b := 4) (e := 2) 17 rfl (by decide +kernel) ?_
  refine hw_ald (b := 0) (e := 0) (by decide +kernel) rfl (by decide) ?_
  refine hw_ald (b := 1) (e := 0) (by decide +kernel) rfl (by decide) ?_
  refine hr_gi (w := φ 95 3) (b := 4) (e := 3) 95 rfl (by decide +kernel) ((hf_up_ne (fun q => absurd q.1 (by decide))).trans ((hf_up_ne (fun q => absurd q.1 (by decide))).trans (hf_up_ne (fun q => absurd q.1 (by decide))))) ?_
  refine hr_pi (b := 4) (e := 3) 17 rfl (by decide +kernel) ?_
  refine hw_ald (b := 0) (e := 0) (by decide +kernel) rfl (by decide) ?_
  refine hw_ald (b := 1) (e := 0) (by decide +kernel) rfl (by decide) ?_
  refine hr_gi (w := φ 95 4) (b := 4) (e := 4) 95 rfl (by decide +kernel) ((hf_up_ne (fun q => absurd q.1 (by decide))).trans ((hf_up_ne (fun q => absurd q.1 (by decide))).trans ((hf_up_ne (fun q => absurd q.1 (by decide))).trans (hf_up_ne (fun q => absurd q.1 (by decide)))))) ?_
  refine hr_pi (b := 4) (e := 4) 17 rfl (by decide +kernel) ?_
  refine hw_ald (b := 0) (e := 0) (by decide +kernel) rfl (by decide) ?_
  refine hw_ald (b := 1) (e := 0) (by decide +kernel) rfl (by decide) ?_
  refine hr_gi (w := φ 95 5) (b := 4) (e := 5) 95 rfl (by decide +kernel) ((hf_up_ne (fun q => absurd q.1 (by decide))).trans ((hf_up_ne (fun q => absurd q.1 (by decide))).trans ((hf_up_ne (fun q => absurd q.1 (by decide))).trans ((hf_up_ne (fun q => absurd q.1 (by decide))).trans (hf_up_ne (fun q => absurd q.1 (by decide))))))) ?_
  refine hr_pi (b := 4) (e := 5) 17 rfl (by decide +kernel) ?_
  refine hw_ald (b := 1) (e := 0) (by decide +kernel) rfl (by decide) ?_
  refine hr_gr (w := 96) (b := 4) (e := 6) 95 rfl (by decide +kernel) ?_
  refine hw_k (c := 0) (b := 0) (e := 1) (by decide +kernel) ?_
  refine hw_ald (b := 0) (e := 0) (by decide +kernel) rfl (by decide) ?_
  refine hr_gr (w := 18) (b := 4) (e := 6) 17 rfl (by decide +kernel) ?_
  refine hw_k (c := 0) (b := 0) (e := 1) (by decide +kernel) ?_
  refine hw_k (c := 8) (b := 1) (e := 2) (by decide +kernel) ?_
  refine hr_cp (a0 := 0) (b0 := 0) (e := 0) 96 18 8 rfl rfl rfl (by decide +kernel) (Nat.le_of_ble_eq_true rfl) ?_
  refine hw_ald (b := 1) (e := 0) (by decide +kernel) rfl (by decide) ?_
  refine hr_gr (w := 97) (b := 4) (e := 7) 95 rfl (by decide +kernel) ?_
  refine hw_k (c := 0) (b := 0) (e := 1) (by decide +kernel) ?_
  refine hw_ald (b := 0) (e := 0) (by decide +kernel) rfl (by decide) ?_
  refine hr_gr (w := 19) (b := 4) (e := 7) 17 rfl (by decide +kernel) ?_
  refine hw_k (c := 0) (b := 0) (e := 1) (by decide +kernel) ?_
  refine hw_k (c := 8) (b := 1) (e := 2) (by decide +kernel) ?_
  refine hr_cp (a0 := 0) (b0 := 0) (e := 0) 97 19 8 rfl rfl rfl (by decide +kernel) (Nat.le_of_ble_eq_true rfl) ?_
  refine hw_ald (b := 1) (e := 0) (by decide +kernel) rfl (by decide) ?_
  refine hr_gr (w := 98) (b := 4) (e := 8) 95 rfl (by decide +kernel) ?_
  refine hw_k (c := 0) (b := 0) (e := 1) (by decide +kernel) ?_
  refine hw_ald (b := 0) (e := 0) (by decide +kernel) rfl (by decide) ?_
  refine hr_gr (w := 20) (b := 4) (e := 8) 17 rfl (by decide +kernel) ?_
  refine hw_k (c := 0) (b := 0) (e := 1) (by decide +kernel) ?_
  refine hw_k (c := 6) (b := 1) (e := 2) (by decide +kernel) ?_
  refine hr_cp (a0 := 0) (b0 := 0) (e := 0) 98 20 6 rfl rfl rfl (by decide +kernel) (Nat.le_of_ble_eq_true rfl) ?_
  refine hw_ald (b := 1) (e := 0) (by decide +kernel) rfl (by decide) ?_
  refine hr_gr (w := 99) (b := 4) (e := 9) 95 rfl (by decide +kernel) ?_
  refine hw_k (c := 0) (b := 0) (e := 1) (by decide +kernel) ?_
  refine hw_ald (b := 0) (e := 0) (by decide +kernel) rfl (by decide) ?_
  refine hr_gr (w := 21) (b := 4) (e := 9) 17 rfl (by decide +kernel) ?_
  refine hw_k (c := 0) (b := 0) (e := 1) (by decide +kernel) ?_
  refine hw_k (c := 6) (b := 1) (e := 2) (by decide +kernel) ?_
  refine hr_cp (a0 := 0) (b0 := 0) (e := 0) 99 21 6 rfl rfl rfl (by decide +kernel) (Nat.le_of_ble_eq_true rfl) ?_
  refine hw_ald (b := 1) (e := 0) (by decide +kernel) rfl (by decide) ?_
  refine hr_gr (w := 100) (b := 4) (e := 10) 95 rfl (by decide +kernel) ?_
  refine hw_k (c := 0) (b := 0) (e := 1) (by decide +kernel) ?_
  refine hw_ald (b := 0) (e := 0) (by decide +kernel) rfl (by decide) ?_
  refine hr_gr (w := 22) (b := 4) (e := 10) 17 rfl (by decide +kernel) ?_
  refine hw_k (c := 0) (b := 0) (e := 1) (by decide +kernel) ?_
  refine hw_k (c := 36) (b := 1) (e := 2) (by decide +kernel) ?_
  refine hr_cp (a0 := 0) (b0 := 0) (e := 0) 100 22 36 rfl rfl rfl (by decide +kernel) (Nat.le_of_ble_eq_true rfl) ?_
  refine hw_ald (b := 1) (e := 0) (by decide +kernel) rfl (by decide) ?_
  refine hr_gr (w := 101) (b := 4) (e := 11) 95 rfl (by decide +kernel) ?_
  refine hw_k (c := 0) (b := 0) (e := 1) (by decide +kernel) ?_
  refine hw_ald (b := 0) (e := 0) (by decide +kernel) rfl (by decide) ?_
  refine hr_gr (w := 23) (b := 4) (e := 11) 17 rfl (by decide +kernel) ?_
  refine hw_k (c := 0) (b := 0) (e := 1) (by decide +kernel) ?_
  refine hw_k (c := 6) (b := 1) (e := 2) (by decide +kernel) ?_
  refine hr_cp (a0 := 0) (b0 := 0) (e := 0) 101 23 6 rfl rfl rfl (by decide +kernel) (Nat.le_of_ble_eq_true rfl) ?_
  refine hw_ald (b := 1) (e := 0) (by decide +kernel) rfl (by decide) ?_
  refine hr_gr (w := 102) (b := 4) (e := 12) 95 rfl (by decide +kernel) ?_
  refine hw_k (c := 0) (b := 0) (e := 1) (by decide +kernel) ?_
  refine hw_ald (b := 0) (e := 0) (by decide +kernel) rfl (by decide) ?_
  refine hr_gr (w := 24) (b := 4) (e := 12) 17 rfl (by decide +kernel) ?_
  refine hw_k (c := 0) (b := 0) (e := 1) (by decide +kernel) ?_
  refine hw_k (c := 6) (b := 1) (e := 2) (by decide +kernel) ?_
  refine hr_cp (a0 := 0) (b0 := 0) (e := 0) 102 24 6 rfl rfl rfl (by decide +kernel) (Nat.le_of_ble_eq_true rfl) ?_
  refine hw_ald (b := 1) (e := 0) (by decide +kernel) rfl (by decide) ?_
  refine hr_gr (w := 103) (b := 4) (e := 13) 95 rfl (by decide +kernel) ?_
  refine hw_k (c := 0) (b := 0) (e := 1) (by decide +kernel) ?_
  refine hw_ald (b := 0) (e := 0) (by decide +kernel) rfl (by decide) ?_
  refine hr_gr (w := 25) (b := 4) (e := 13) 17 rfl (by decide +kernel) ?_
  refine hw_k (c := 0) (b := 0) (e := 1) (by decide +kernel) ?_
  refine hw_k (c := 8) (b := 1) (e := 2) (by decide +kernel) ?_
  refine hr_cp (a0 := 0) (b0 := 0) (e := 0) 103 25 8 rfl rfl rfl (by decide +kernel) (Nat.le_of_ble_eq_true rfl) ?_
  exact hw_vret (a0 := 0) (e := 0) (by decide +kernel) H
theorem sf_66_17_95 {sc : List Int} {d : Nat} {φ : hf_F} {x : Nat} {Q : Option jm_V → hf_F → Nat → Prop}  (hI : Inv φ)  (hQ : ∀ ψ : hf_F, Inv ψ → Fr [17, 18, 19, 20, 21, 22, 23, 24, 25] φ ψ → Q none ψ x) : hw sc d 66 0 [(0, (2, 17)), (1, (2, 95))] [] φ x Q := by
  apply sf_66_17_95_v
  have i1 : Inv (hf_up φ 17 0 (φ 95 0)) := iv_upn hI (by decide) (by decide +kernel)
  have r1 : Fr [17, 18, 19, 20, 21, 22, 23, 24, 25] φ (hf_up φ 17 0 (φ 95 0)) := fr_up (fr_rf) (by decide)
  have f2 := iv_at (a := 95) (k := 1) (lo := (-1 : Int)) (u := 7) hI (by decide +kernel)
  have i3 : Inv (hf_up (hf_up φ 17 0 (φ 95 0)) 17 1 (φ 95 1)) := iv_up (lo := (-1 : Int)) (u := 7) i1 (by decide +kernel) (by omega) (by omega)
  have r3 : Fr [17, 18, 19, 20, 21, 22, 23, 24, 25] φ (hf_up (hf_up φ 17 0 (φ 95 0)) 17 1 (φ 95 1)) := fr_up r1 (by decide)
  have f4 := iv_at (a := 95) (k := 2) (lo := (-1 : Int)) (u := 5) hI (by decide +kernel)
  have i5 : Inv (hf_up (hf_up (hf_up φ 17 0 (φ 95 0)) 17 1 (φ 95 1)) 17 2 (φ 95 2)) := iv_up (lo := (-1 : Int)) (u := 5) i3 (by decide +kernel) (by omega) (by omega)
  have r5 : Fr [17, 18, 19, 20, 21, 22, 23, 24, 25] φ (hf_up (hf_up (hf_up φ 17 0 (φ 95 0)) 17 1 (φ 95 1)) 17 2 (φ 95 2)) := fr_up r3 (by decide)
  have f6 := iv_at (a := 95) (k := 3) (lo := (-2147483648 : Int)) (u := 2147483647) hI (by decide +kernel)
  have i7 : Inv (hf_up (hf_up (hf_up (hf_up φ 17 0 (φ 95 0)) 17 1 (φ 95 1)) 17 2 (φ 95 2)) 17 3 (φ 95 3)) := iv_up (lo := (-2147483648 : Int)) (u := 2147483647) i5 (by decide +kernel) (by omega) (by omega)
  have r7 : Fr [17, 18, 19, 20, 21, 22, 23, 24, 25] φ (hf_up (hf_up (hf_up (hf_up φ 17 0 (φ 95 0)) 17 1 (φ 95 1)) 17 2 (φ 95 2)) 17 3 (φ 95 3)) := fr_up r5 (by decide)
  have i8 : Inv (hf_up (hf_up (hf_up (hf_up (hf_up φ 17 0 (φ 95 0)) 17 1 (φ 95 1)) 17 2 (φ 95 2)) 17 3 (φ 95 3)) 17 4 (φ 95 4)) := iv_upn i7 (by decide) (by decide +kernel)
  have r8 : Fr [17, 18, 19, 20, 21, 22, 23, 24, 25] φ (hf_up (hf_up (hf_up (hf_up (hf_up φ 17 0 (φ 95 0)) 17 1 (φ 95 1)) 17 2 (φ 95 2)) 17 3 (φ 95 3)) 17 4 (φ 95 4)) := fr_up r7 (by decide)
  have i9 : Inv (hf_up (hf_up (hf_up (hf_up (hf_up (hf_up φ 17 0 (φ 95 0)) 17 1 (φ 95 1)) 17 2 (φ 95 2)) 17 3 (φ 95 3)) 17 4 (φ 95 4)) 17 5 (φ 95 5)) := iv_upn i8 (by decide) (by decide +kernel)
  have r9 : Fr [17, 18, 19, 20, 21, 22, 23, 24, 25] φ (hf_up (hf_up (hf_up (hf_up (hf_up (hf_up φ 17 0 (φ 95 0)) 17 1 (φ 95 1)) 17 2 (φ 95 2)) 17 3 (φ 95 3)) 17 4 (φ 95 4)) 17 5 (φ 95 5)) := fr_up r8 (by decide)
  have i10 : Inv (hf_cp (hf_up (hf_up (hf_up (hf_up (hf_up (hf_up φ 17 0 (φ 95 0)) 17 1 (φ 95 1)) 17 2 (φ 95 2)) 17 3 (φ 95 3)) 17 4 (φ 95 4)) 17 5 (φ 95 5)) 96 18 8) := iv_cp i9 (by decide) (by decide +kernel)
  have r10 : Fr [17, 18, 19, 20, 21, 22, 23, 24, 25] φ (hf_cp (hf_up (hf_up (hf_up (hf_up (hf_up (hf_up φ 17 0 (φ 95 0)) 17 1 (φ 95 1)) 17 2 (φ 95 2)) 17 3 (φ 95 3)) 17 4 (φ 95 4)) 17 5 (φ 95 5)) 96 18 8) := fr_cp r9 (by decide)
  have i11 : Inv (hf_cp (hf_cp (hf_up (hf_up (hf_up (hf_up (hf_up (hf_up φ 17 0 (φ 95 0)) 17 1 (φ 95 1)) 17 2 (φ 95 2)) 17 3 (φ 95 3)) 17 4 (φ 95 4)) 17 5 (φ 95 5)) 96 18 8) 97 19 8) := iv_cp i10 (by decide) (by decide +kernel)
  have r11 : Fr [17, 18, 19, 20, 21, 22, 23, 24, 25] φ (hf_cp (hf_cp (hf_up (hf_up (hf_up (hf_up (hf_up (hf_up φ 17 0 (φ 95 0)) 17 1 (φ 95 1)) 17 2 (φ 95 2)) 17 3 (φ 95 3)) 17 4 (φ 95 4)) 17 5 (φ 95 5)) 96 18 8) 97 19 8) := fr_cp r10 (by decide)
  have i12 : Inv (hf_cp (hf_cp (hf_cp (hf_up (hf_up (hf_up (hf_up (hf_up (hf_up φ 17 0 (φ 95 0)) 17 1 (φ 95 1)) 17 2 (φ 95 2)) 17 3 (φ 95 3)) 17 4 (φ 95 4)) 17 5 (φ 95 5)) 96 18 8) 97 19 8) 98 20 6) := iv_cp i11 (by decide) (by decide +kernel)
  have r12 : Fr [17, 18, 19, 20, 21, 22, 23, 24, 25] φ (hf_cp (hf_cp (hf_cp (hf_up (hf_up (hf_up (hf_up (hf_up (hf_up φ 17 0 (φ 95 0)) 17 1 (φ 95 1)) 17 2 (φ 95 2)) 17 3 (φ 95 3)) 17 4 (φ 95 4)) 17 5 (φ 95 5)) 96 18 8) 97 19 8) 98 20 6) := fr_cp r11 (by decide)
  have i13 : Inv (hf_cp (hf_cp (hf_cp (hf_cp (hf_up (hf_up (hf_up (hf_up (hf_up (hf_up φ 17 0 (φ 95 0)) 17 1 (φ 95 1)) 17 2 (φ 95 2)) 17 3 (φ 95 3)) 17 4 (φ 95 4)) 17 5 (φ 95 5)) 96 18 8) 97 19 8) 98 20 6) 99 21 6) := iv_cp i12 (by decide) (by decide +kernel)
  have r13 : Fr [17, 18, 19, 20, 21, 22, 23, 24, 25] φ (hf_cp (hf_cp (hf_cp (hf_cp (hf_up (hf_up (hf_up (hf_up (hf_up (hf_up φ 17 0 (φ 95 0)) 17 1 (φ 95 1)) 17 2 (φ 95 2)) 17 3 (φ 95 3)) 17 4 (φ 95 4)) 17 5 (φ 95 5)) 96 18 8) 97 19 8) 98 20 6) 99 21 6) := fr_cp r12 (by decide)
  have i14 : Inv (hf_cp (hf_cp (hf_cp (hf_cp (hf_cp (hf_up (hf_up (hf_up (hf_up (hf_up (hf_up φ 17 0 (φ 95 0)) 17 1 (φ 95 1)) 17 2 (φ 95 2)) 17 3 (φ 95 3)) 17 4 (φ 95 4)) 17 5 (φ 95 5)) 96 18 8) 97 19 8) 98 20 6) 99 21 6) 100 22 36) := iv_cp i13 (by decide) (by decide +kernel)
  have r14 : Fr [17, 18, 19, 20, 21, 22, 23, 24, 25] φ (hf_cp (hf_cp (hf_cp (hf_cp (hf_cp (hf_up (hf_up (hf_up (hf_up (hf_up (hf_up φ 17 0 (φ 95 0)) 17 1 (φ 95 1)) 17 2 (φ 95 2)) 17 3 (φ 95 3)) 17 4 (φ 95 4)) 17 5 (φ 95 5)) 96 18 8) 97 19 8) 98 20 6) 99 21 6) 100 22 36) := fr_cp r13 (by decide)
  have i15 : Inv (hf_cp (hf_cp (hf_cp (hf_cp (hf_cp (hf_cp (hf_up (hf_up (hf_up (hf_up (hf_up (hf_up φ 17 0 (φ 95 0)) 17 1 (φ 95 1)) 17 2 (φ 95 2)) 17 3 (φ 95 3)) 17 4 (φ 95 4)) 17 5 (φ 95 5)) 96 18 8) 97 19 8) 98 20 6) 99 21 6) 100 22 36) 101 23 6) := iv_cp i14 (by decide) (by decide +kernel)
  have r15 : Fr [17, 18, 19, 20, 21, 22, 23, 24, 25] φ (hf_cp (hf_cp (hf_cp (hf_cp (hf_cp (hf_cp (hf_up (hf_up (hf_up (hf_up (hf_up (hf_up φ 17 0 (φ 95 0)) 17 1 (φ 95 1)) 17 2 (φ 95 2)) 17 3 (φ 95 3)) 17 4 (φ 95 4)) 17 5 (φ 95 5)) 96 18 8) 97 19 8) 98 20 6) 99 21 6) 100 22 36) 101 23 6) := fr_cp r14 (by decide)
  have i16 : Inv (hf_cp (hf_cp (hf_cp (hf_cp (hf_cp (hf_cp (hf_cp (hf_up (hf_up (hf_up (hf_up (hf_up (hf_up φ 17 0 (φ 95 0)) 17 1 (φ 95 1)) 17 2 (φ 95 2)) 17 3 (φ 95 3)) 17 4 (φ 95 4)) 17 5 (φ 95 5)) 96 18 8) 97 19 8) 98 20 6) 99 21 6) 100 22 36) 101 23 6) 102 24 6) := iv_cp i15 (by decide) (by decide +kernel)
  have r16 : Fr [17, 18, 19, 20, 21, 22, 23, 24, 25] φ (hf_cp (hf_cp (hf_cp (hf_cp (hf_cp (hf_cp (hf_cp (hf_up (hf_up (hf_up (hf_up (hf_up (hf_up φ 17 0 (φ 95 0)) 17 1 (φ 95 1)) 17 2 (φ 95 2)) 17 3 (φ 95 3)) 17 4 (φ 95 4)) 17 5 (φ 95 5)) 96 18 8) 97 19 8) 98 20 6) 99 21 6) 100 22 36) 101 23 6) 102 24 6) := fr_cp r15 (by decide)
  have i17 : Inv (hf_cp (hf_cp (hf_cp (hf_cp (hf_cp (hf_cp (hf_cp (hf_cp (hf_up (hf_up (hf_up (hf_up (hf_up (hf_up φ 17 0 (φ 95 0)) 17 1 (φ 95 1)) 17 2 (φ 95 2)) 17 3 (φ 95 3)) 17 4 (φ 95 4)) 17 5 (φ 95 5)) 96 18 8) 97 19 8) 98 20 6) 99 21 6) 100 22 36) 101 23 6) 102 24 6) 103 25 8) := iv_cp i16 (by decide) (by decide +kernel)
  have r17 : Fr [17, 18, 19, 20, 21, 22, 23, 24, 25] φ (hf_cp (hf_cp (hf_cp (hf_cp (hf_cp (hf_cp (hf_cp (hf_cp (hf_up (hf_up (hf_up (hf_up (hf_up (hf_up φ 17 0 (φ 95 0)) 17 1 (φ 95 1)) 17 2 (φ 95 2)) 17 3 (φ 95 3)) 17 4 (φ 95 4)) 17 5 (φ 95 5)) 96 18 8) 97 19 8) 98 20 6) 99 21 6) 100 22 36) 101 23 6) 102 24 6) 103 25 8) := fr_cp r16 (by decide)
  exact hQ (hf_cp (hf_cp (hf_cp (hf_cp (hf_cp (hf_cp (hf_cp (hf_cp (hf_up (hf_up (hf_up (hf_up (hf_up (hf_up φ 17 0 (φ 95 0)) 17 1 (φ 95 1)) 17 2 (φ 95 2)) 17 3 (φ 95 3)) 17 4 (φ 95 4)) 17 5 (φ 95 5)) 96 18 8) 97 19 8) 98 20 6) 99 21 6) 100 22 36) 101 23 6) 102 24 6) 103 25 8) i17 r17
theorem sf_67_26_104_v {sc : List Int} {d : Nat} {φ : hf_F} {x : Nat} {Q : Option jm_V → hf_F → Nat → Prop} 
    (H : ((φ 104 5) = 0 ∨ (φ 104 5) = 1) ∧ (Q none (hf_up (hf_up (hf_up (hf_cp (hf_cp (hf_cp φ 105 27 40) 106 28 40) 107 29 40) 26 3 (φ 104 3)) 26 4 (φ 104 4)) 26 5 (φ 104 5)) x)) :
    hw sc d 67 0 [(0, (2, 26)), (1, (2, 104))] [] φ x Q := by
  refine hw_ald (b := 1) (e := 0) (by decide +kernel) rfl (by decide) ?_
  refine hr_gr (w := 105) (b := 5) (e := 0) 104 rfl (by decide +kernel) ?_
  refine hw_k (c := 0) (b := 0) (e := 1) (by decide +kernel) ?_
  refine hw_ald (b := 0) (e := 0) (by decide +kernel) rfl (by decide) ?_
  refine hr_gr (w := 27) (b := 5) (e := 0) 26 rfl (by decide +kernel) ?_
  refine hw_k (c := 0) (b := 0) (e := 1) (by decide +kernel) ?_
  refine hw_k (c := 40) (b := 1) (e := 2) (by decide +kernel) ?_
  refine hr_cp (a0 := 0) (b0 := 0) (e := 0) 105 27 40 rfl rfl rfl (by decide +kernel) (Nat.le_of_ble_eq_true rfl) ?_
  refine hw_ald (b := 1) (e := 0) (by decide +kernel) rfl (by decide) ?_
  refine hr_gr (w := 106) (b := 5) (e := 1) 104 rfl (by decide +kernel) ?_
  refine hw_k (c := 0) (b := 0) (e := 1) (by decide +kernel) ?_
  refine hw_ald (b := 0) (e := 0) (by decide +kernel) rfl (by decide) ?_
  refine hr_gr (w := 28) (b := 5) (e := 1) 26 rfl (by decide +kernel) ?_
  refine hw_k (c := 0) (b := 0) (e := 1) (by decide +kernel) ?_
  refine hw_k (c := 40) (b := 1) (e := 2) (by decide +kernel) ?_
  refine hr_cp (a0 := 0) (b0 := 0) (e := 0) 106 28 40 rfl rfl rfl (by decide +kernel) (Nat.le_of_ble_eq_true rfl) ?_
  refine hw_ald (b := 1) (e := 0) (by decide +kernel) rfl (by decide) ?_
  refine hr_gr (w := 107) (b := 5) (e := 2) 104 rfl (by decide +kernel) ?_
  refine hw_k (c := 0) (b := 0) (e := 1) (by decide +kernel) ?_
  refine hw_ald (b := 0) (e := 0) (by decide +kernel) rfl (by decide) ?_
  refine hr_gr (w := 29) (b := 5) (e := 2) 26 rfl (by decide +kernel) ?_
  refine hw_k (c := 0) (b := 0) (e := 1) (by decide +kernel) ?_
  refine hw_k (c := 40) (b := 1) (e := 2) (by decide +kernel) ?_
  refine hr_cp (a0 := 0) (b0 := 0) (e := 0) 107 29 40 rfl rfl rfl (by decide +kernel) (Nat.le_of_ble_eq_true rfl) ?_
  refine hw_ald (b := 0) (e := 0) (by decide +kernel) rfl (by decide) ?_
  refine hw_ald (b := 1) (e := 0) (by decide +kernel) rfl (by decide) ?_
  refine hr_gi (w := φ 104 3) (b := 5) (e := 3) 104 rfl (by decide +kernel) ((hf_cp_ne (fun q => absurd q.1 (by decide))).trans ((hf_cp_ne (fun q => absurd q.1 (by decide))).trans (hf_cp_ne (fun q => absurd q.1 (by decide))))) ?_
  refine hr_pi (b := 5) (e := 3) 26 rfl (by decide +kernel) ?_
  refine hw_ald (b := 0) (e := 0) (by decide +kernel) rfl (by decide) ?_
  refine hw_ald (b := 1) (e := 0) (by decide +kernel) rfl (by decide) ?_
  refine hr_gi (w := φ 104 4) (b := 5) (e := 4) 104 rfl (by decide +kernel) ((hf_up_ne (fun q => absurd q.1 (by decide))).trans ((hf_cp_ne (fun q => absurd q.1 (by decide))).trans ((hf_cp_ne (fun q => absurd q.1 (by decide))).trans (hf_cp_ne (fun q => absurd q.1 (by decide)))))) ?_
  refine hr_pi (b := 5) (e := 4) 26 rfl (by decide +kernel) ?_
  refine hw_ald (b := 0) (e := 0) (by decide +kernel) rfl (by decide) ?_
  refine hw_ald (b := 1) (e := 0) (by decide +kernel) rfl (by decide) ?_
  refine hr_gz (w := φ 104 5) (b := 5) (e := 5) 104 rfl (by decide +kernel) ((hf_up_ne (fun q => absurd q.1 (by decide))).trans ((hf_up_ne (fun q => absurd q.1 (by decide))).trans ((hf_cp_ne (fun q => absurd q.1 (by decide))).trans ((hf_cp_ne (fun q => absurd q.1 (by decide))).trans (hf_cp_ne (fun q => absurd q.1 (by decide))))))) ?_
  obtain ⟨h01_1, H⟩ := H
  refine hr_pz (b := 5) (e := 5) 26 rfl (by decide +kernel) h01_1 ?_
  exact hw_vret (a0 := 0) (e := 0) (by decide +kernel) H
theorem sf_67_26_104 {sc : List Int} {d : Nat} {φ : hf_F} {x : Nat} {Q : Option jm_V → hf_F → Nat → Prop}  (hI : Inv φ)  (hQ : ∀ ψ : hf_F, Inv ψ → Fr [26, 27, 28, 29] φ ψ → Q none ψ x) : hw sc d 67 0 [(0, (2, 26)), (1, (2, 104))] [] φ x Q := by
  apply sf_67_26_104_v
  have i1 : Inv (hf_cp φ 105 27 40) := iv_cp hI (by decide) (by decide +kernel)
  have r1 : Fr [26, 27, 28, 29] φ (hf_cp φ 105 27 40) := fr_cp (fr_rf) (by decide)
  have i2 : Inv (hf_cp (hf_cp φ 105 27 40) 106 28 40) := iv_cp i1 (by decide) (by decide +kernel)
  have r2 : Fr [26, 27, 28, 29] φ (hf_cp (hf_cp φ 105 27 40) 106 28 40) := fr_cp r1 (by decide)
  have i3 : Inv (hf_cp (hf_cp (hf_cp φ 105 27 40) 106 28 40) 107 29 40) := iv_cp i2 (by decide) (by decide +kernel)
  have r3 : Fr [26, 27, 28, 29] φ (hf_cp (hf_cp (hf_cp φ 105 27 40) 106 28 40) 107 29 40) := fr_cp r2 (by decide)
  have f4 := iv_at (a := 104) (k := 3) (lo := 0) (u := 40) hI (by decide +kernel)
  have i5 : Inv (hf_up (hf_cp (hf_cp (hf_cp φ 105 27 40) 106 28 40) 107 29 40) 26 3 (φ 104 3)) := iv_up (lo := 0) (u := 40) i3 (by decide +kernel) (by omega) (by omega)
  have r5 : Fr [26, 27, 28, 29] φ (hf_up (hf_cp (hf_cp (hf_cp φ 105 27 40) 106 28 40) 107 29 40) 26 3 (φ 104 3)) := fr_up r3 (by decide)
  have f6 := iv_at (a := 104) (k := 4) (lo := 0) (u := 20) hI (by decide +kernel)
  have i7 : Inv (hf_up (hf_up (hf_cp (hf_cp (hf_cp φ 105 27 40) 106 28 40) 107 29 40) 26 3 (φ 104 3)) 26 4 (φ 104 4)) := iv_up (lo := 0) (u := 20) i5 (by decide +kernel) (by omega) (by omega)
  have r7 : Fr [26, 27, 28, 29] φ (hf_up (hf_up (hf_cp (hf_cp (hf_cp φ 105 27 40) 106 28 40) 107 29 40) 26 3 (φ 104 3)) 26 4 (φ 104 4)) := fr_up r5 (by decide)
  have f8 := iv_at (a := 104) (k := 5) (lo := 0) (u := 1) hI (by decide +kernel)
  refine ⟨by omega, ?_⟩
  have i9 : Inv (hf_up (hf_up (hf_up (hf_cp (hf_cp (hf_cp φ 105 27 40) 106 28 40) 107 29 40) 26 3 (φ 104 3)) 26 4 (φ 104 4)) 26 5 (φ 104 5)) := iv_up (lo := 0) (u := 1) i7 (by decide +kernel) (by omega) (by omega)
  have r9 : Fr [26, 27, 28, 29] φ (hf_up (hf_up (hf_up (hf_cp (hf_cp (hf_cp φ 105 27 40) 106 28 40) 107 29 40) 26 3 (φ 104 3)) 26 4 (φ 104 4)) 26 5 (φ 104 5)) := fr_up r7 (by decide)
  exact hQ (hf_up (hf_up (hf_up (hf_cp (hf_cp (hf_cp φ 105 27 40) 106 28 40) 107 29 40) 26 3 (φ 104 3)) 26 4 (φ 104 4)) 26 5 (φ 104 5)) i9 r9
theorem sf_64_4_82_v {sc : List Int} {d : Nat} {φ : hf_F} {x : Nat} {Q : Option jm_V → hf_F → Nat → Prop} 
    (H : hw sc d 65 0 [(0, (2, 5)), (1, (2, 83))] [] φ x (fun r ψ1 y1 => y1 = x ∧ (r = none ∧ (hw sc d 66 0 [(0, (2, 17)), (1, (2, 95))] [] ψ1 x (fun r ψ2 y2 => y2 = x ∧ (r = none ∧ (hw sc d 67 0 [(0, (2, 26)), (1, (2, 104))] [] ψ2 x (fun r ψ3 y3 => y3 = x ∧ (r = none ∧ (Q none ψ3 x)))))))))) :
    hw sc (d + 1) 64 0 [(0, (2, 4)), (1, (2, 82))] [] φ x Q := by
  refine hw_ald (b := 0) (e := 0) (by decide +kernel) rfl (by decide) ?_
  refine hr_gr (w := 5) (b := 2) (e := 0) 4 rfl (by decide +kernel) ?_
  refine hw_ald (b := 1) (e := 0) (by decide +kernel) rfl (by decide) ?_
  refine hr_gr (w := 83) (b := 2) (e := 0) 82 rfl (by decide +kernel) ?_
  refine hr_call (a0 := 13) (b := 65) (e := 2) (nl := 2) (As := [(2, 83)]) (R := []) 5 rfl (by decide +kernel) rfl rfl (Nat.le_of_ble_eq_true rfl) (Nat.le_of_ble_eq_true rfl) ?_
  refine hw_mono H ?_
  rintro r ψ1 y1 ⟨hyx, hr, H⟩
  subst hyx
  subst hr
  refine ⟨hnen, ?_⟩
  show hw sc (d + 1) 64 11 [(0, (2, 4)), (1, (2, 82))] [] ψ1 y1 Q
  refine hw_ald (b := 0) (e := 0) (by decide +kernel) rfl (by decide) ?_
  refine hr_gr (w := 17) (b := 2) (e := 1) 4 rfl (by decide +kernel) ?_
  refine hw_ald (b := 1) (e := 0) (by decide +kernel) rfl (by decide) ?_
  refine hr_gr (w := 95) (b := 2) (e := 1) 82 rfl (by decide +kernel) ?_
  refine hr_call (a0 := 14) (b := 66) (e := 2) (nl := 2) (As := [(2, 95)]) (R := []) 17 rfl (by decide +kernel) rfl rfl (Nat.le_of_ble_eq_true rfl) (Nat.le_of_ble_eq_true rfl) ?_
  refine hw_mono H ?_
  rintro r ψ2 y2 ⟨hyx, hr, H⟩
  subst hyx
  subst hr
  refine ⟨hnen, ?_⟩
  show hw sc (d + 1) 64 22 [(0, (2, 4)), (1, (2, 82))] [] ψ2 y2 Q
  refine hw_ald (b := 0) (e := 0) (by decide +kernel) rfl (by decide) ?_
  refine hr_gr (w := 26) (b := 2) (e := 2) 4 rfl (by decide +kernel) ?_
  refine hw_ald (b := 1) (e := 0) (by decide +kernel) rfl (by decide) ?_
  refine hr_gr (w := 104) (b := 2) (e := 2) 82 rfl (by decide +kernel) ?_
  refine hr_call (a0 := 15) (b := 67) (e := 2) (nl := 2) (As := [(2, 104)]) (R := []) 26 rfl (by decide +kernel) rfl rfl (Nat.le_of_ble_eq_true rfl) (Nat.le_of_ble_eq_true rfl) ?_
  refine hw_mono H ?_
  rintro r ψ3 y3 ⟨hyx, hr, H⟩
  subst hyx
  subst hr
  refine ⟨hnen, ?_⟩
  show hw sc (d + 1) 64 33 [(0, (2, 4)), (1, (2, 82))] [] ψ3 y3 Q
  exact hw_vret (a0 := 0) (e := 0) (by decide +kernel) H
theorem sf_64_4_82 {sc : List Int} {d : Nat} {φ : hf_F} {x : Nat} {Q : Option jm_V → hf_F → Nat → Prop}  (hI : Inv φ)  (hQ : ∀ ψ : hf_F, Inv ψ → Fr [6, 7, 8, 9, 10, 11, 12, 13, 14, 15, 16, 17, 18, 19, 20, 21, 22, 23, 24, 25, 26, 27, 28, 29] φ ψ → Q none ψ x) : hw sc (d + 1) 64 0 [(0, (2, 4)), (1, (2, 82))] [] φ x Q := by
  apply sf_64_4_82_v
  refine sf_65_5_83 (φ := φ) hI  (fun ψ1 hI1 hF1 => ⟨rfl, rfl, ?_⟩)
  have hG1 : Fr [6, 7, 8, 9, 10, 11, 12, 13, 14, 15, 16, 17, 18, 19, 20, 21, 22, 23, 24, 25, 26, 27, 28, 29] φ ψ1 := fr_tr (fr_rf) hF1 (by decide)
  refine sf_66_17_95 (φ := ψ1) hI1  (fun ψ2 hI2 hF2 => ⟨rfl, rfl, ?_⟩)
  have hG2 : Fr [6, 7, 8, 9, 10, 11, 12, 13, 14, 15, 16, 17, 18, 19, 20, 21, 22, 23, 24, 25, 26, 27, 28, 29] φ ψ2 := fr_tr hG1 hF2 (by decide)
  refine sf_67_26_104 (φ := ψ2) hI2  (fun ψ3 hI3 hF3 => ⟨rfl, rfl, ?_⟩)
  have hG3 : Fr [6, 7, 8, 9, 10, 11, 12, 13, 14, 15, 16, 17, 18, 19, 20, 21, 22, 23, 24, 25, 26, 27, 28, 29] φ ψ3 := fr_tr hG2 hF3 (by decide)
  exact hQ ψ3 hI3 hG3
theorem sf_65_5_57_v {sc : List Int} {d : Nat} {φ : hf_F} {x : Nat} {Q : Option jm_V → hf_F → Nat → Prop} 
    (H : Q none (hf_cp (hf_cp (hf_cp (hf_cp (hf_cp (hf_cp (hf_cp (hf_cp (hf_cp (hf_cp (hf_cp φ 58 6 5) 59 7 40) 60 8 3) 61 9 3) 62 10 8) 63 11 8) 64 12 8) 65 13 8) 66 14 8) 67 15 8) 68 16 64) x) :
    hw sc d 65 0 [(0, (2, 5)), (1, (2, 57))] [] φ x Q := by
  refine hw_ald (b := 1) (e := 0) (by decide +kernel) rfl (by decide) ?_
  refine hr_gr (w := 58) (b := 3) (e := 0) 57 rfl (by decide +kernel) ?_
  refine hw_k (c := 0) (b := 0) (e := 1) (by decide +kernel) ?_
  refine hw_ald (b := 0) (e := 0) (by decide +kernel) rfl (by decide) ?_
  refine hr_gr (w := 6) (b := 3) (e := 0) 5 rfl (by decide +kernel) ?_
  refine hw_k (c := 0) (b := 0) (e := 1) (by decide +kernel) ?_
  refine hw_k (c := 5) (b := 0) (e := 1) (by decide +kernel) ?_
  refine hr_cp (a0 := 0) (b0 := 0) (e := 0) 58 6 5 rfl rfl rfl (by decide +kernel) (Nat.le_of_ble_eq_true rfl) ?_
  refine hw_ald (b := 1) (e := 0) (by decide +kernel) rfl (by decide) ?_
  refine hr_gr (w := 59) (b := 3) (e := 1) 57 rfl (by decide +kernel) ?_
  refine hw_k (c := 0) (b := 0) (e := 1) (by decide +kernel) ?_
  refine hw_ald (b := 0) (e := 0) (by decide +kernel) rfl (by decide) ?_
  refine hr_gr (w := 7) (b := 3) (e := 1) 5 rfl (by decide +kernel) ?_
  refine hw_k (c := 0) (b := 0) (e := 1) (by decide +kernel) ?_
  refine hw_k (c := 40) (b := 1) (e := 2) (by decide +kernel) ?_
  refine hr_cp (a0 := 0) (b0 := 0) (e := 0) 59 7 40 rfl rfl rfl (by decide +kernel) (Nat.le_of_ble_eq_true rfl) ?_
  refine hw_ald (b := 1) (e := 0) (by decide +kernel) rfl (by decide) ?_
  refine hr_gr (w := 60) (b := 3) (e := 2) 57 rfl (by decide +kernel) ?_
  refine hw_k (c := 0) (b := 0) (e := 1) (by decide +kernel) ?_
  refine hw_ald (b := 0) (e := 0) (by decide +kernel) rfl (by decide) ?_
  refine hr_gr (w := 8) (b := 3) (e := 2) 5 rfl (by decide +kernel) ?_
  refine hw_k (c := 0) (b := 0) (e := 1) (by decide +kernel) ?_
  refine hw_k (c := 3) (b := 0) (e := 1) (by decide +kernel) ?_
  refine hr_cp (a0 := 0) (b0 := 0) (e := 0) 60 8 3 rfl rfl rfl (by decide +kernel) (Nat.le_of_ble_eq_true rfl) ?_
  refine hw_ald (b := 1) (e := 0) (by decide +kernel) rfl (by decide) ?_
  refine hr_gr (w := 61) (b := 3) (e := 3) 57 rfl (by decide +kernel) ?_
  refine hw_k (c := 0) (b := 0) (e := 1) (by decide +kernel) ?_
  refine hw_ald (b := 0) (e := 0) (by decide +kernel) rfl (by decide) ?_
  refine hr_gr (w := 9) (b := 3) (e := 3) 5 rfl (by decide +kernel) ?_
  refine hw_k (c := 0) (b := 0) (e := 1) (by decide +kernel) ?_
  refine hw_k (c := 3) (b := 0) (e := 1) (by decide +kernel) ?_
  refine hr_cp (a0 := 0) (b0 := 0) (e := 0) 61 9 3 rfl rfl rfl (by decide +kernel) (Nat.le_of_ble_eq_true rfl) ?_
  refine hw_ald (b := 1) (e := 0) (by decide +kernel) rfl (by decide) ?_
  refine hr_gr (w := 62) (b := 3) (e := 4) 57 rfl (by decide +kernel) ?_
  refine hw_k (c := 0) (b := 0) (e := 1) (by decide +kernel) ?_
  refine hw_ald (b := 0) (e := 0) (by decide +kernel) rfl (by decide) ?_
  refine hr_gr (w := 10) (b := 3) (e := 4) 5 rfl (by decide +kernel) ?_
  refine hw_k (c := 0) (b := 0) (e := 1) (by decide +kernel) ?_
  refine hw_k (c := 8) (b := 1) (e := 2) (by decide +kernel) ?_
  refine hr_cp (a0 := 0) (b0 := 0) (e := 0) 62 10 8 rfl rfl rfl (by decide +kernel) (Nat.le_of_ble_eq_true rfl) ?_
  refine hw_ald (b := 1) (e := 0) (by decide +kernel) rfl (by decide) ?_
  refine hr_gr (w := 63) (b := 3) (e := 5) 57 rfl (by decide +kernel) ?_
  refine hw_k (c := 0) (b := 0) (e := 1) (by decide +kernel) ?_
  refine hw_ald (b := 0) (e := 0) (by decide +kernel) rfl (by decide) ?_
  refine hr_gr (w := 11) (b := 3) (e := 5) 5 rfl (by decide +kernel) ?_
  refine hw_k (c := 0) (b := 0) (e := 1) (by decide +kernel) ?_
  refine hw_k (c := 8) (b := 1) (e := 2) (by decide +kernel) ?_
  refine hr_cp (a0 := 0) (b0 := 0) (e := 0) 63 11 8 rfl rfl rfl (by decide +kernel) (Nat.le_of_ble_eq_true rfl) ?_
  refine hw_ald (b := 1) (e := 0) (by decide +kernel) rfl (by decide) ?_
  refine hr_gr (w := 64) (b := 3) (e := 6) 57 rfl (by decide +kernel) ?_
  refine hw_k (c := 0) (b := 0) (e := 1) (by decide +kernel) ?_
  refine hw_ald (b := 0) (e := 0) (by decide +kernel) rfl (by decide) ?_
  refine hr_gr (w := 12) (b := 3) (e := 6) 5 rfl (by decide +kernel) ?_
  refine hw_k (c := 0) (b := 0) (e := 1) (by decide +kernel) ?_
  refine hw_k (c := 8) (b := 1) (e := 2) (by decide +kernel) ?_
  refine hr_cp (a0 := 0) (b0 := 0) (e := 0) 64 12 8 rfl rfl rfl (by decide +kernel) (Nat.le_of_ble_eq_true rfl) ?_
  refine hw_ald (b := 1) (e := 0) (by decide +kernel) rfl (by decide) ?_
  refine hr_gr (w := 65) (b := 3) (e := 7) 57 rfl (by decide +kernel) ?_
  refine hw_k (c := 0) (b := 0) (e := 1) (by decide +kernel) ?_
  refine hw_ald (b := 0) (e := 0) (by decide +kernel) rfl (by decide) ?_
  refine hr_gr (w := 13) (b := 3) (e := 7) 5 rfl (by decide +kernel) ?_
  refine hw_k (c := 0) (b := 0) (e := 1) (by decide +kernel) ?_
  refine hw_k (c := 8) (b := 1) (e := 2) (by decide +kernel) ?_
  refine hr_cp (a0 := 0) (b0 := 0) (e := 0) 65 13 8 rfl rfl rfl (by decide +kernel) (Nat.le_of_ble_eq_true rfl) ?_
  refine hw_ald (b := 1) (e := 0) (by decide +kernel) rfl (by decide) ?_
  refine hr_gr (w := 66) (b := 3) (e := 8) 57 rfl (by decide +kernel) ?_
  refine hw_k (c := 0) (b := 0) (e := 1) (by decide +kernel) ?_
  refine hw_ald (b := 0) (e := 0) (by decide +kernel) rfl (by decide) ?_
  refine hr_gr (w := 14) (b := 3) (e := 8) 5 rfl (by decide +kernel) ?_
  refine hw_k (c := 0) (b := 0) (e := 1) (by decide +kernel) ?_
  refine hw_k (c := 8) (b := 1) (e := 2) (by decide +kernel) ?_
  refine hr_cp (a0 := 0) (b0 := 0) (e := 0) 66 14 8 rfl rfl rfl (by decide +kernel) (Nat.le_of_ble_eq_true rfl) ?_
  refine hw_ald (b := 1) (e := 0) (by decide +kernel) rfl (by decide) ?_
  refine hr_gr (w := 67) (b := 3) (e := 9) 57 rfl (by decide +kernel) ?_
  refine hw_k (c := 0) (b := 0) (e := 1) (by decide +kernel) ?_
  refine hw_ald (b := 0) (e := 0) (by decide +kernel) rfl (by decide) ?_
  refine hr_gr (w := 15) (b := 3) (e := 9) 5 rfl (by decide +kernel) ?_
  refine hw_k (c := 0) (b := 0) (e := 1) (by decide +kernel) ?_
  refine hw_k (c := 8) (b := 1) (e := 2) (by decide +kernel) ?_
  refine hr_cp (a0 := 0) (b0 := 0) (e := 0) 67 15 8 rfl rfl rfl (by decide +kernel) (Nat.le_of_ble_eq_true rfl) ?_
  refine hw_ald (b := 1) (e := 0) (by decide +kernel) rfl (by decide) ?_
  refine hr_gr (w := 68) (b := 3) (e := 10) 57 rfl (by decide +kernel) ?_
  refine hw_k (c := 0) (b := 0) (e := 1) (by decide +kernel) ?_
  refine hw_ald (b := 0) (e := 0) (by decide +kernel) rfl (by decide) ?_
  refine hr_gr (w := 16) (b := 3) (e := 10) 5 rfl (by decide +kernel) ?_
  refine hw_k (c := 0) (b := 0) (e := 1) (by decide +kernel) ?_
  refine hw_k (c := 64) (b := 1) (e := 2) (by decide +kernel) ?_
  refine hr_cp (a0 := 0) (b0 := 0) (e := 0) 68 16 64 rfl rfl rfl (by decide +kernel) (Nat.le_of_ble_eq_true rfl) ?_
  exact hw_vret (a0 := 0) (e := 0) (by decide +kernel) H
theorem sf_65_5_57 {sc : List Int} {d : Nat} {φ : hf_F} {x : Nat} {Q : Option jm_V → hf_F → Nat → Prop}  (hI : Inv φ)  (hQ : ∀ ψ : hf_F, Inv ψ → Fr [6, 7, 8, 9, 10, 11, 12, 13, 14, 15, 16] φ ψ → Q none ψ x) : hw sc d 65 0 [(0, (2, 5)), (1, (2, 57))] [] φ x Q := by
  apply sf_65_5_57_v
  have i1 : Inv (hf_cp φ 58 6 5) := iv_cp hI (by decide) (by decide +kernel)
  have r1 : Fr [6, 7, 8, 9, 10, 11, 12, 13, 14, 15, 16] φ (hf_cp φ 58 6 5) := fr_cp (fr_rf) (by decide)
  have i2 : Inv (hf_cp (hf_cp φ 58 6 5) 59 7 40) := iv_cp i1 (by decide) (by decide +kernel)
  have r2 : Fr [6, 7, 8, 9, 10, 11, 12, 13, 14, 15, 16] φ (hf_cp (hf_cp φ 58 6 5) 59 7 40) := fr_cp r1 (by decide)
  have i3 : Inv (hf_cp (hf_cp (hf_cp φ 58 6 5) 59 7 40) 60 8 3) := iv_cp i2 (by decide) (by decide +kernel)
  have r3 : Fr [6, 7, 8, 9, 10, 11, 12, 13, 14, 15, 16] φ (hf_cp (hf_cp (hf_cp φ 58 6 5) 59 7 40) 60 8 3) := fr_cp r2 (by decide)
  have i4 : Inv (hf_cp (hf_cp (hf_cp (hf_cp φ 58 6 5) 59 7 40) 60 8 3) 61 9 3) := iv_cp i3 (by decide) (by decide +kernel)
  have r4 : Fr [6, 7, 8, 9, 10, 11, 12, 13, 14, 15, 16] φ (hf_cp (hf_cp (hf_cp (hf_cp φ 58 6 5) 59 7 40) 60 8 3) 61 9 3) := fr_cp r3 (by decide)
  have i5 : Inv (hf_cp (hf_cp (hf_cp (hf_cp (hf_cp φ 58 6 5) 59 7 40) 60 8 3) 61 9 3) 62 10 8) := iv_cp i4 (by decide) (by decide +kernel)
  have r5 : Fr [6, 7, 8, 9, 10, 11, 12, 13, 14, 15, 16] φ (hf_cp (hf_cp (hf_cp (hf_cp (hf_cp φ 58 6 5) 59 7 40) 60 8 3) 61 9 3) 62 10 8) := fr_cp r4 (by decide)
  have i6 : Inv (hf_cp (hf_cp (hf_cp (hf_cp (hf_cp (hf_cp φ 58 6 5) 59 7 40) 60 8 3) 61 9 3) 62 10 8) 63 11 8) := iv_cp i5 (by decide) (by decide +kernel)
  have r6 : Fr [6, 7, 8, 9, 10, 11, 12, 13, 14, 15, 16] φ (hf_cp (hf_cp (hf_cp (hf_cp (hf_cp (hf_cp φ 58 6 5) 59 7 40) 60 8 3) 61 9 3) 62 10 8) 63 11 8) := fr_cp r5 (by decide)
  have i7 : Inv (hf_cp (hf_cp (hf_cp (hf_cp (hf_cp (hf_cp (hf_cp φ 58 6 5) 59 7 40) 60 8 3) 61 9 3) 62 10 8) 63 11 8) 64 12 8) := iv_cp i6 (by decide) (by decide +kernel)
  have r7 : Fr [6, 7, 8, 9, 10, 11, 12, 13, 14, 15, 16] φ (hf_cp (hf_cp (hf_cp (hf_cp (hf_cp (hf_cp (hf_cp φ 58 6 5) 59 7 40) 60 8 3) 61 9 3) 62 10 8) 63 11 8) 64 12 8) := fr_cp r6 (by decide)
  have i8 : Inv (hf_cp (hf_cp (hf_cp (hf_cp (hf_cp (hf_cp (hf_cp (hf_cp φ 58 6 5) 59 7 40) 60 8 3) 61 9 3) 62 10 8) 63 11 8) 64 12 8) 65 13 8) := iv_cp i7 (by decide) (by decide +kernel)
  have r8 : Fr [6, 7, 8, 9, 10, 11, 12, 13, 14, 15, 16] φ (hf_cp (hf_cp (hf_cp (hf_cp (hf_cp (hf_cp (hf_cp (hf_cp φ 58 6 5) 59 7 40) 60 8 3) 61 9 3) 62 10 8) 63 11 8) 64 12 8) 65 13 8) := fr_cp r7 (by decide)
  have i9 : Inv (hf_cp (hf_cp (hf_cp (hf_cp (hf_cp (hf_cp (hf_cp (hf_cp (hf_cp φ 58 6 5) 59 7 40) 60 8 3) 61 9 3) 62 10 8) 63 11 8) 64 12 8) 65 13 8) 66 14 8) := iv_cp i8 (by decide) (by decide +kernel)
  have r9 : Fr [6, 7, 8, 9, 10, 11, 12, 13, 14, 15, 16] φ (hf_cp (hf_cp (hf_cp (hf_cp (hf_cp (hf_cp (hf_cp (hf_cp (hf_cp φ 58 6 5) 59 7 40) 60 8 3) 61 9 3) 62 10 8) 63 11 8) 64 12 8) 65 13 8) 66 14 8) := fr_cp r8 (by decide)
  have i10 : Inv (hf_cp (hf_cp (hf_cp (hf_cp (hf_cp (hf_cp (hf_cp (hf_cp (hf_cp (hf_cp φ 58 6 5) 59 7 40) 60 8 3) 61 9 3) 62 10 8) 63 11 8) 64 12 8) 65 13 8) 66 14 8) 67 15 8) := iv_cp i9 (by decide) (by decide +kernel)
  have r10 : Fr [6, 7, 8, 9, 10, 11, 12, 13, 14, 15, 16] φ (hf_cp (hf_cp (hf_cp (hf_cp (hf_cp (hf_cp (hf_cp (hf_cp (hf_cp (hf_cp φ 58 6 5) 59 7 40) 60 8 3) 61 9 3) 62 10 8) 63 11 8) 64 12 8) 65 13 8) 66 14 8) 67 15 8) := fr_cp r9 (by decide)
  have i11 : Inv (hf_cp (hf_cp (hf_cp (hf_cp (hf_cp (hf_cp (hf_cp (hf_cp (hf_cp (hf_cp (hf_cp φ 58 6 5) 59 7 40) 60 8 3) 61 9 3) 62 10 8) 63 11 8) 64 12 8) 65 13 8) 66 14 8) 67 15 8) 68 16 64) := iv_cp i10 (by decide) (by decide +kernel)
  have r11 : Fr [6, 7, 8, 9, 10, 11, 12, 13, 14, 15, 16] φ (hf_cp (hf_cp (hf_cp (hf_cp (hf_cp (hf_cp (hf_cp (hf_cp (hf_cp (hf_cp (hf_cp φ 58 6 5) 59 7 40) 60 8 3) 61 9 3) 62 10 8) 63 11 8) 64 12 8) 65 13 8) 66 14 8) 67 15 8) 68 16 64) := fr_cp r10 (by decide)
  exact hQ (hf_cp (hf_cp (hf_cp (hf_cp (hf_cp (hf_cp (hf_cp (hf_cp (hf_cp (hf_cp (hf_cp φ 58 6 5) 59 7 40) 60 8 3) 61 9 3) 62 10 8) 63 11 8) 64 12 8) 65 13 8) 66 14 8) 67 15 8) 68 16 64) i11 r11
theorem sf_66_17_69_v {sc : List Int} {d : Nat} {φ : hf_F} {x : Nat} {Q : Option jm_V → hf_F → Nat → Prop} 
    (H : Q none (hf_cp (hf_cp (hf_cp (hf_cp (hf_cp (hf_cp (hf_cp (hf_cp (hf_up (hf_up (hf_up (hf_up (hf_up (hf_up φ 17 0 (φ 69 0)) 17 1 (φ 69 1)) 17 2 (φ 69 2)) 17 3 (φ 69 3)) 17 4 (φ 69 4)) 17 5 (φ 69 5)) 70 18 8) 71 19 8) 72 20 6) 73 21 6) 74 22 36) 75 23 6) 76 24 6) 77 25 8) x) :
    hw sc d 66 0 [(0, (2, 17)), (1, (2, 69))] [] φ x Q := by
  refine hw_ald (b := 0) (e := 0) (by decide +kernel) rfl (by decide) ?_
  refine hw_ald (b := 1) (e := 0) (by decide +kernel) rfl (by decide) ?_
  refine hr_gi (w := φ 69 0) (b := 4) (e := 0) 69 rfl (by decide +kernel) rfl ?_
  refine hr_pi (b := 4) (e := 0) 17 rfl (by decide +kernel) ?_
  refine hw_ald (b := 0) (e := 0) (by decide +kernel) rfl (by decide) ?_
  refine hw_ald (b := 1) (e := 0) (by decide +kernel) rfl (by decide) ?_
  refine hr_gi (w := φ 69 1) (b := 4) (e := 1) 69 rfl (by decide +kernel) (hf_up_ne (fun q => absurd q.1 (by decide))) ?_
  refine hr_pi (b := 4) (e := 1) 17 rfl (by decide +kernel) ?_
  refine hw_ald (b := 0) (e := 0) (by decide +kernel) rfl (by decide) ?_
  refine hw_ald (b := 1) (e := 0) (by decide +kernel) rfl (by decide) ?_
  refine hr_gi (w := φ 69 2) (b := 4) (e := 2) 69 rfl (by decide +kernel) ((hf_up_ne (fun q => absurd q.1 (by decide))).trans (hf_up_ne (fun q => absurd q.1 (by decide)))) ?_
  refine hr_pi (b := 4) (e := 2) 17 rfl (by decide +kernel) ?_
  refine hw_ald (b := 0) (e := 0) (by decide +kernel) rfl (by decide) ?_
  refine hw_ald (b := 1) (e := 0) (by decide +kernel) rfl (by decide) ?_
  refine hr_gi (w := φ 69 3) (b := 4) (e := 3) 69 rfl (by decide +kernel) ((hf_up_ne (fun q => absurd q.1 (by decide))).trans ((hf_up_ne (fun q => absurd q.1 (by decide))).trans (hf_up_ne (fun q => absurd q.1 (by decide))))) ?_
  refine hr_pi (b := 4) (e := 3) 17 rfl (by decide +kernel) ?_
  refine hw_ald (b := 0) (e := 0) (by decide +kernel) rfl (by decide) ?_
  refine hw_ald (b := 1) (e := 0) (by decide +kernel) rfl (by decide) ?_
  refine hr_gi (w := φ 69 4) (b := 4) (e := 4) 69 rfl (by decide +kernel) ((hf_up_ne (fun q => absurd q.1 (by decide))).trans ((hf_up_ne (fun q => absurd q.1 (by decide))).trans ((hf_up_ne (fun q => absurd q.1 (by decide))).trans (hf_up_ne (fun q => absurd q.1 (by decide)))))) ?_
  refine hr_pi (b := 4) (e := 4) 17 rfl (by decide +kernel) ?_
  refine hw_ald (b := 0) (e := 0) (by decide +kernel) rfl (by decide) ?_
  refine hw_ald (b := 1) (e := 0) (by decide +kernel) rfl (by decide) ?_
  refine hr_gi (w := φ 69 5) (b := 4) (e := 5) 69 rfl (by decide +kernel) ((hf_up_ne (fun q => absurd q.1 (by decide))).trans ((hf_up_ne (fun q => absurd q.1 (by decide))).trans ((hf_up_ne (fun q => absurd q.1 (by decide))).trans ((hf_up_ne (fun q => absurd q.1 (by decide))).trans (hf_up_ne (fun q => absurd q.1 (by decide))))))) ?_
  refine hr_pi (b := 4) (e := 5) 17 rfl (by decide +kernel) ?_
  refine hw_ald (b := 1) (e := 0) (by decide +kernel) rfl (by decide) ?_
  refine hr_gr (w := 70) (b := 4) (e := 6) 69 rfl (by decide +kernel) ?_
  refine hw_k (c := 0) (b := 0) (e := 1) (by decide +kernel) ?_
  refine hw_ald (b := 0) (e := 0) (by decide +kernel) rfl (by decide) ?_
  refine hr_gr (w := 18) (b := 4) (e := 6) 17 rfl (by decide +kernel) ?_
  refine hw_k (c := 0) (b := 0) (e := 1) (by decide +kernel) ?_
  refine hw_k (c := 8) (b := 1) (e := 2) (by decide +kernel) ?_
  refine hr_cp (a0 := 0) (b0 := 0) (e := 0) 70 18 8 rfl rfl rfl (by decide +kernel) (Nat.le_of_ble_eq_true rfl) ?_
  refine hw_ald (b := 1) (e := 0) (by decide +kernel) rfl (by decide) ?_
  refine hr_gr (w := 71) (b := 4) (e := 7) 69 rfl (by decide +kernel) ?_
  refine hw_k (c := 0) (b := 0) (e := 1) (by decide +kernel) ?_
  refine hw_ald (b := 0) (e := 0) (by decide +kernel) rfl (by decide) ?_
  refine hr_gr (w := 19) (b := 4) (e := 7) 17 rfl (by decide +kernel) ?_
  refine hw_k (c := 0) (b := 0) (e := 1) (by decide +kernel) ?_
  refine hw_k (c := 8) (b := 1) (e := 2) (by decide +kernel) ?_
  refine hr_cp (a0 := 0) (b0 := 0) (e := 0) 71 19 8 rfl rfl rfl (by decide +kernel) (Nat.le_of_ble_eq_true rfl) ?_
  refine hw_ald (b := 1) (e := 0) (by decide +kernel) rfl (by decide) ?_
  refine hr_gr (w := 72) (b := 4) (e := 8) 69 rfl (by decide +kernel) ?_
  refine hw_k (c := 0) (b := 0) (e := 1) (by decide +kernel) ?_
  refine hw_ald (b := 0) (e := 0) (by decide +kernel) rfl (by decide) ?_
  refine hr_gr (w := 20) (b := 4) (e := 8) 17 rfl (by decide +kernel) ?_
  refine hw_k (c := 0) (b := 0) (e := 1) (by decide +kernel) ?_
  refine hw_k (c := 6) (b := 1) (e := 2) (by decide +kernel) ?_
  refine hr_cp (a0 := 0) (b0 := 0) (e := 0) 72 20 6 rfl rfl rfl (by decide +kernel) (Nat.le_of_ble_eq_true rfl) ?_
  refine hw_ald (b := 1) (e := 0) (by decide +kernel) rfl (by decide) ?_
  refine hr_gr (w := 73) (b := 4) (e := 9) 69 rfl (by decide +kernel) ?_
  refine hw_k (c := 0) (b := 0) (e := 1) (by decide +kernel) ?_
  refine hw_ald (b := 0) (e := 0) (by decide +kernel) rfl (by decide) ?_
  refine hr_gr (w := 21) (b := 4) (e := 9) 17 rfl (by decide +kernel) ?_
  refine hw_k (c := 0) (b := 0) (e := 1) (by decide +kernel) ?_
  refine hw_k (c := 6) (b := 1) (e := 2) (by decide +kernel) ?_
  refine hr_cp (a0 := 0) (b0 := 0) (e := 0) 73 21 6 rfl rfl rfl (by decide +kernel) (Nat.le_of_ble_eq_true rfl) ?_
  refine hw_ald (b := 1) (e := 0) (by decide +kernel) rfl (by decide) ?_
  refine hr_gr (w := 74) (b := 4) (e := 10) 69 rfl (by decide +kernel) ?_
  refine hw_k (c := 0) (b := 0) (e := 1) (by decide +kernel) ?_
  refine hw_ald (b := 0) (e := 0) (by decide +kernel) rfl (by decide) ?_
  refine hr_gr (w := 22) (b := 4) (e := 10) 17 rfl (by decide +kernel) ?_
  refine hw_k (c := 0) (b := 0) (e := 1) (by decide +kernel) ?_
  refine hw_k (c := 36) (b := 1) (e := 2) (by decide +kernel) ?_
  refine hr_cp (a0 := 0) (b0 := 0) (e := 0) 74 22 36 rfl rfl rfl (by decide +kernel) (Nat.le_of_ble_eq_true rfl) ?_
  refine hw_ald (b := 1) (e := 0) (by decide +kernel) rfl (by decide) ?_
  refine hr_gr (w := 75) (b := 4) (e := 11) 69 rfl (by decide +kernel) ?_
  refine hw_k (c := 0) (b := 0) (e := 1) (by decide +kernel) ?_
  refine hw_ald (b := 0) (e := 0) (by decide +kernel) rfl (by decide) ?_
  refine hr_gr (w := 23) (b := 4) (e := 11) 17 rfl (by decide +kernel) ?_
  refine hw_k (c := 0) (b := 0) (e := 1) (by decide +kernel) ?_
  refine hw_k (c := 6) (b := 1) (e := 2) (by decide +kernel) ?_
  refine hr_cp (a0 := 0) (b0 := 0) (e := 0) 75 23 6 rfl rfl rfl (by decide +kernel) (Nat.le_of_ble_eq_true rfl) ?_
  refine hw_ald (b := 1) (e := 0) (by decide +kernel) rfl (by decide) ?_
  refine hr_gr (w := 76) (b := 4) (e := 12) 69 rfl (by decide +kernel) ?_
  refine hw_k (c := 0) (b := 0) (e := 1) (by decide +kernel) ?_
  refine hw_ald (b := 0) (e := 0) (by decide +kernel) rfl (by decide) ?_
  refine hr_gr (w := 24) (b := 4) (e := 12) 17 rfl (by decide +kernel) ?_
  refine hw_k (c := 0) (b := 0) (e := 1) (by decide +kernel) ?_
  refine hw_k (c := 6) (b := 1) (e := 2) (by decide +kernel) ?_
  refine hr_cp (a0 := 0) (b0 := 0) (e := 0) 76 24 6 rfl rfl rfl (by decide +kernel) (Nat.le_of_ble_eq_true rfl) ?_
  refine hw_ald (b := 1) (e := 0) (by decide +kernel) rfl (by decide) ?_
  refine hr_gr (w := 77) (b := 4) (e := 13) 69 rfl (by decide +kernel) ?_
  refine hw_k (c := 0) (b := 0) (e := 1) (by decide +kernel) ?_
  refine hw_ald (b := 0) (e := 0) (by decide +kernel) rfl (by decide) ?_
  refine hr_gr (w := 25) (b := 4) (e := 13) 17 rfl (by decide +kernel) ?_
  refine hw_k (c := 0) (b := 0) (e := 1) (by decide +kernel) ?_
  refine hw_k (c := 8) (b := 1) (e := 2) (by decide +kernel) ?_
  refine hr_cp (a0 := 0) (b0 := 0) (e := 0) 77 25 8 rfl rfl rfl (by decide +kernel) (Nat.le_of_ble_eq_true rfl) ?_
  exact hw_vret (a0 := 0) (e := 0) (by decide +kernel) H
theorem sf_66_17_69 {sc : List Int} {d : Nat} {φ : hf_F} {x : Nat} {Q : Option jm_V → hf_F → Nat → Prop}  (hI : Inv φ)  (hQ : ∀ ψ : hf_F, Inv ψ → Fr [17, 18, 19, 20, 21, 22, 23, 24, 25] φ ψ → Q none ψ x) : hw sc d 66 0 [(0, (2, 17)), (1, (2, 69))] [] φ x Q := by
  apply sf_66_17_69_v
  have i1 : Inv (hf_up φ 17 0 (φ 69 0)) := iv_upn hI (by decide) (by decide +kernel)
  have r1 : Fr [17, 18, 19, 20, 21, 22, 23, 24, 25] φ (hf_up φ 17 0 (φ 69 0)) := fr_up (fr_rf) (by decide)
  have f2 := iv_at (a := 69) (k := 1) (lo := (-1 : Int)) (u := 7) hI (by decide +kernel)
  have i3 : Inv (hf_up (hf_up φ 17 0 (φ 69 0)) 17 1 (φ 69 1)) := iv_up (lo := (-1 : Int)) (u := 7) i1 (by decide +kernel) (by omega) (by omega)
  have r3 : Fr [17, 18, 19, 20, 21, 22, 23, 24, 25] φ (hf_up (hf_up φ 17 0 (φ 69 0)) 17 1 (φ 69 1)) := fr_up r1 (by decide)
  have f4 := iv_at (a := 69) (k := 2) (lo := (-1 : Int)) (u := 5) hI (by decide +kernel)
  have i5 : Inv (hf_up (hf_up (hf_up φ 17 0 (φ 69 0)) 17 1 (φ 69 1)) 17 2 (φ 69 2)) := iv_up (lo := (-1 : Int)) (u := 5) i3 (by decide +kernel) (by omega) (by omega)
  have r5 : Fr [17, 18, 19, 20, 21, 22, 23, 24, 25] φ (hf_up (hf_up (hf_up φ 17 0 (φ 69 0)) 17 1 (φ 69 1)) 17 2 (φ 69 2)) := fr_up r3 (by decide)
  have f6 := iv_at (a := 69) (k := 3) (lo := (-2147483648 : Int)) (u := 2147483647) hI (by decide +kernel)
  have i7 : Inv (hf_up (hf_up (hf_up (hf_up φ 17 0 (φ 69 0)) 17 1 (φ 69 1)) 17 2 (φ 69 2)) 17 3 (φ 69 3)) := iv_up (lo := (-2147483648 : Int)) (u := 2147483647) i5 (by decide +kernel) (by omega) (by omega)
  have r7 : Fr [17, 18, 19, 20, 21, 22, 23, 24, 25] φ (hf_up (hf_up (hf_up (hf_up φ 17 0 (φ 69 0)) 17 1 (φ 69 1)) 17 2 (φ 69 2)) 17 3 (φ 69 3)) := fr_up r5 (by decide)
  have i8 : Inv (hf_up (hf_up (hf_up (hf_up (hf_up φ 17 0 (φ 69 0)) 17 1 (φ 69 1)) 17 2 (φ 69 2)) 17 3 (φ 69 3)) 17 4 (φ 69 4)) := iv_upn i7 (by decide) (by decide +kernel)
  have r8 : Fr [17, 18, 19, 20, 21, 22, 23, 24, 25] φ (hf_up (hf_up (hf_up (hf_up (hf_up φ 17 0 (φ 69 0)) 17 1 (φ 69 1)) 17 2 (φ 69 2)) 17 3 (φ 69 3)) 17 4 (φ 69 4)) := fr_up r7 (by decide)
  have i9 : Inv (hf_up (hf_up (hf_up (hf_up (hf_up (hf_up φ 17 0 (φ 69 0)) 17 1 (φ 69 1)) 17 2 (φ 69 2)) 17 3 (φ 69 3)) 17 4 (φ 69 4)) 17 5 (φ 69 5)) := iv_upn i8 (by decide) (by decide +kernel)
  have r9 : Fr [17, 18, 19, 20, 21, 22, 23, 24, 25] φ (hf_up (hf_up (hf_up (hf_up (hf_up (hf_up φ 17 0 (φ 69 0)) 17 1 (φ 69 1)) 17 2 (φ 69 2)) 17 3 (φ 69 3)) 17 4 (φ 69 4)) 17 5 (φ 69 5)) := fr_up r8 (by decide)
  have i10 : Inv (hf_cp (hf_up (hf_up (hf_up (hf_up (hf_up (hf_up φ 17 0 (φ 69 0)) 17 1 (φ 69 1)) 17 2 (φ 69 2)) 17 3 (φ 69 3)) 17 4 (φ 69 4)) 17 5 (φ 69 5)) 70 18 8) := iv_cp i9 (by decide) (by decide +kernel)
  have r10 : Fr [17, 18, 19, 20, 21, 22, 23, 24, 25] φ (hf_cp (hf_up (hf_up (hf_up (hf_up (hf_up (hf_up φ 17 0 (φ 69 0)) 17 1 (φ 69 1)) 17 2 (φ 69 2)) 17 3 (φ 69 3)) 17 4 (φ 69 4)) 17 5 (φ 69 5)) 70 18 8) := fr_cp r9 (by decide)
  have i11 : Inv (hf_cp (hf_cp (hf_up (hf_up (hf_up (hf_up (hf_up (hf_up φ 17 0 (φ 69 0)) 17 1 (φ 69 1)) 17 2 (φ 69 2)) 17 3 (φ 69 3)) 17 4 (φ 69 4)) 17 5 (φ 69 5)) 70 18 8) 71 19 8) := iv_cp i10 (by decide) (by decide +kernel)
  have r11 : Fr [17, 18, 19, 20, 21, 22, 23, 24, 25] φ (hf_cp (hf_cp (hf_up (hf_up (hf_up (hf_up (hf_up (hf_up φ 17 0 (φ 69 0)) 17 1 (φ 69 1)) 17 2 (φ 69 2)) 17 3 (φ 69 3)) 17 4 (φ 69 4)) 17 5 (φ 69 5)) 70 18 8) 71 19 8) := fr_cp r10 (by decide)
  have i12 : Inv (hf_cp (hf_cp (hf_cp (hf_up (hf_up (hf_up (hf_up (hf_up (hf_up φ 17 0 (φ 69 0)) 17 1 (φ 69 1)) 17 2 (φ 69 2)) 17 3 (φ 69 3)) 17 4 (φ 69 4)) 17 5 (φ 69 5)) 70 18 8) 71 19 8) 72 20 6) := iv_cp i11 (by decide) (by decide +kernel)
  have r12 : Fr [17, 18, 19, 20, 21, 22, 23, 24, 25] φ (hf_cp (hf_cp (hf_cp (hf_up (hf_up (hf_up (hf_up (hf_up (hf_up φ 17 0 (φ 69 0)) 17 1 (φ 69 1)) 17 2 (φ 69 2)) 17 3 (φ 69 3)) 17 4 (φ 69 4)) 17 5 (φ 69 5)) 70 18 8) 71 19 8) 72 20 6) := fr_cp r11 (by decide)
  have i13 : Inv (hf_cp (hf_cp (hf_cp (hf_cp (hf_up (hf_up (hf_up (hf_up (hf_up (hf_up φ 17 0 (φ 69 0)) 17 1 (φ 69 1)) 17 2 (φ 69 2)) 17 3 (φ 69 3)) 17 4 (φ 69 4)) 17 5 (φ 69 5)) 70 18 8) 71 19 8) 72 20 6) 73 21 6) := iv_cp i12 (by decide) (by decide +kernel)
  have r13 : Fr [17, 18, 19, 20, 21, 22, 23, 24, 25] φ (hf_cp (hf_cp (hf_cp (hf_cp (hf_up (hf_up (hf_up (hf_up (hf_up (hf_up φ 17 0 (φ 69 0)) 17 1 (φ 69 1)) 17 2 (φ 69 2)) 17 3 (φ 69 3)) 17 4 (φ 69 4)) 17 5 (φ 69 5)) 70 18 8) 71 19 8) 72 20 6) 73 21 6) := fr_cp r12 (by decide)
  have i14 : Inv (hf_cp (hf_cp (hf_cp (hf_cp (hf_cp (hf_up (hf_up (hf_up (hf_up (hf_up (hf_up φ 17 0 (φ 69 0)) 17 1 (φ 69 1)) 17 2 (φ 69 2)) 17 3 (φ 69 3)) 17 4 (φ 69 4)) 17 5 (φ 69 5)) 70 18 8) 71 19 8) 72 20 6) 73 21 6) 74 22 36) := iv_cp i13 (by decide) (by decide +kernel)
  have r14 : Fr [17, 18, 19, 20, 21, 22, 23, 24, 25] φ (hf_cp (hf_cp (hf_cp (hf_cp (hf_cp (hf_up (hf_up (hf_up (hf_up (hf_up (hf_up φ 17 0 (φ 69 0)) 17 1 (φ 69 1)) 17 2 (φ 69 2)) 17 3 (φ 69 3)) 17 4 (φ 69 4)) 17 5 (φ 69 5)) 70 18 8) 71 19 8) 72 20 6) 73 21 6) 74 22 36) := fr_cp r13 (by decide)
  have i15 : Inv (hf_cp (hf_cp (hf_cp (hf_cp (hf_cp (hf_cp (hf_up (hf_up (hf_up (hf_up (hf_up (hf_up φ 17 0 (φ 69 0)) 17 1 (φ 69 1)) 17 2 (φ 69 2)) 17 3 (φ 69 3)) 17 4 (φ 69 4)) 17 5 (φ 69 5)) 70 18 8) 71 19 8) 72 20 6) 73 21 6) 74 22 36) 75 23 6) := iv_cp i14 (by decide) (by decide +kernel)
  have r15 : Fr [17, 18, 19, 20, 21, 22, 23, 24, 25] φ (hf_cp (hf_cp (hf_cp (hf_cp (hf_cp (hf_cp (hf_up (hf_up (hf_up (hf_up (hf_up (hf_up φ 17 0 (φ 69 0)) 17 1 (φ 69 1)) 17 2 (φ 69 2)) 17 3 (φ 69 3)) 17 4 (φ 69 4)) 17 5 (φ 69 5)) 70 18 8) 71 19 8) 72 20 6) 73 21 6) 74 22 36) 75 23 6) := fr_cp r14 (by decide)
  have i16 : Inv (hf_cp (hf_cp (hf_cp (hf_cp (hf_cp (hf_cp (hf_cp (hf_up (hf_up (hf_up (hf_up (hf_up (hf_up φ 17 0 (φ 69 0)) 17 1 (φ 69 1)) 17 2 (φ 69 2)) 17 3 (φ 69 3)) 17 4 (φ 69 4)) 17 5 (φ 69 5)) 70 18 8) 71 19 8) 72 20 6) 73 21 6) 74 22 36) 75 23 6) 76 24 6) := iv_cp i15 (by decide) (by decide +kernel)
  have r16 : Fr [17, 18, 19, 20, 21, 22, 23, 24, 25] φ (hf_cp (hf_cp (hf_cp (hf_cp (hf_cp (hf_cp (hf_cp (hf_up (hf_up (hf_up (hf_up (hf_up (hf_up φ 17 0 (φ 69 0)) 17 1 (φ 69 1)) 17 2 (φ 69 2)) 17 3 (φ 69 3)) 17 4 (φ 69 4)) 17 5 (φ 69 5)) 70 18 8) 71 19 8) 72 20 6) 73 21 6) 74 22 36) 75 23 6) 76 24 6) := fr_cp r15 (by decide)
  have i17 : Inv (hf_cp (hf_cp (hf_cp (hf_cp (hf_cp (hf_cp (hf_cp (hf_cp (hf_up (hf_up (hf_up (hf_up (hf_up (hf_up φ 17 0 (φ 69 0)) 17 1 (φ 69 1)) 17 2 (φ 69 2)) 17 3 (φ 69 3)) 17 4 (φ 69 4)) 17 5 (φ 69 5)) 70 18 8) 71 19 8) 72 20 6) 73 21 6) 74 22 36) 75 23 6) 76 24 6) 77 25 8) := iv_cp i16 (by decide) (by decide +kernel)
  have r17 : Fr [17, 18, 19, 20, 21, 22, 23, 24, 25] φ (hf_cp (hf_cp (hf_cp (hf_cp (hf_cp (hf_cp (hf_cp (hf_cp (hf_up (hf_up (hf_up (hf_up (hf_up (hf_up φ 17 0 (φ 69 0)) 17 1 (φ 69 1)) 17 2 (φ 69 2)) 17 3 (φ 69 3)) 17 4 (φ 69 4)) 17 5 (φ 69 5)) 70 18 8) 71 19 8) 72 20 6) 73 21 6) 74 22 36) 75 23 6) 76 24 6) 77 25 8) := fr_cp r16 (by decide)
  exact hQ (hf_cp (hf_cp (hf_cp (hf_cp (hf_cp (hf_cp (hf_cp (hf_cp (hf_up (hf_up (hf_up (hf_up (hf_up (hf_up φ 17 0 (φ 69 0)) 17 1 (φ 69 1)) 17 2 (φ 69 2)) 17 3 (φ 69 3)) 17 4 (φ 69 4)) 17 5 (φ 69 5)) 70 18 8) 71 19 8) 72 20 6) 73 21 6) 74 22 36) 75 23 6) 76 24 6) 77 25 8) i17 r17
theorem sf_67_26_78_v {sc : List Int} {d : Nat} {φ : hf_F} {x : Nat} {Q : Option jm_V → hf_F → Nat → Prop} 
    (H : ((φ 78 5) = 0 ∨ (φ 78 5) = 1) ∧ (Q none (hf_up (hf_up (hf_up (hf_cp (hf_cp (hf_cp φ 79 27 40) 80 28 40) 81 29 40) 26 3 (φ 78 3)) 26 4 (φ 78 4)) 26 5 (φ 78 5)) x)) :
    hw sc d 67 0 [(0, (2, 26)), (1, (2, 78))] [] φ x Q := by
  refine hw_ald (b := 1) (e := 0) (by decide +kernel) rfl (by decide) ?_
  refine hr_gr (w := 79) (b := 5) (e := 0) 78 rfl (by decide +kernel) ?_
  refine hw_k (c := 0) (b := 0) (e := 1) (by decide +kernel) ?_
  refine hw_ald (b := 0) (e := 0) (by decide +kernel) rfl (by decide) ?_
  refine hr_gr (w := 27) (b := 5) (e := 0) 26 rfl (by decide +kernel) ?_
  refine hw_k (c := 0) (b := 0) (e := 1) (by decide +kernel) ?_
  refine hw_k (c := 40) (b := 1) (e := 2) (by decide +kernel) ?_
  refine hr_cp (a0 := 0) (b0 := 0) (e := 0) 79 27 40 rfl rfl rfl (by decide +kernel) (Nat.le_of_ble_eq_true rfl) ?_
  refine hw_ald (b := 1) (e := 0) (by decide +kernel) rfl (by decide) ?_
  refine hr_gr (w := 80) (b := 5) (e := 1) 78 rfl (by decide +kernel) ?_
  refine hw_k (c := 0) (b := 0) (e := 1) (by decide +kernel) ?_
  refine hw_ald (b := 0) (e := 0) (by decide +kernel) rfl (by decide) ?_
  refine hr_gr (w := 28) (b := 5) (e := 1) 26 rfl (by decide +kernel) ?_
  refine hw_k (c := 0) (b := 0) (e := 1) (by decide +kernel) ?_
  refine hw_k (c := 40) (b := 1) (e := 2) (by decide +kernel) ?_
  refine hr_cp (a0 := 0) (b0 := 0) (e := 0) 80 28 40 rfl rfl rfl (by decide +kernel) (Nat.le_of_ble_eq_true rfl) ?_
  refine hw_ald (b := 1) (e := 0) (by decide +kernel) rfl (by decide) ?_
  refine hr_gr (w := 81) (b := 5) (e := 2) 78 rfl (by decide +kernel) ?_
  refine hw_k (c := 0) (b := 0) (e := 1) (by decide +kernel) ?_
  refine hw_ald (b := 0) (e := 0) (by decide +kernel) rfl (by decide) ?_
  refine hr_gr (w := 29) (b := 5) (e := 2) 26 rfl (by decide +kernel) ?_
  refine hw_k (c := 0) (b := 0) (e := 1) (by decide +kernel) ?_
  refine hw_k (c := 40) (b := 1) (e := 2) (by decide +kernel) ?_
  refine hr_cp (a0 := 0) (b0 := 0) (e := 0) 81 29 40 rfl rfl rfl (by decide +kernel) (Nat.le_of_ble_eq_true rfl) ?_
  refine hw_ald (b := 0) (e := 0) (by decide +kernel) rfl (by decide) ?_
  refine hw_ald (b := 1) (e := 0) (by decide +kernel) rfl (by decide) ?_
  refine hr_gi (w := φ 78 3) (b := 5) (e := 3) 78 rfl (by decide +kernel) ((hf_cp_ne (fun q => absurd q.1 (by decide))).trans ((hf_cp_ne (fun q => absurd q.1 (by decide))).trans (hf_cp_ne (fun q => absurd q.1 (by decide))))) ?_
  refine hr_pi (b := 5) (e := 3) 26 rfl (by decide +kernel) ?_
  refine hw_ald (b := 0) (e := 0) (by decide +kernel) rfl (by decide) ?_
  refine hw_ald (b := 1) (e := 0) (by decide +kernel) rfl (by decide) ?_
  refine hr_gi (w := φ 78 4) (b := 5) (e := 4) 78 rfl (by decide +kernel) ((hf_up_ne (fun q => absurd q.1 (by decide))).trans ((hf_cp_ne (fun q => absurd q.1 (by decide))).trans ((hf_cp_ne (fun q => absurd q.1 (by decide))).trans (hf_cp_ne (fun q => absurd q.1 (by decide)))))) ?_
  refine hr_pi (b := 5) (e := 4) 26 rfl (by decide +kernel) ?_
  refine hw_ald (b := 0) (e := 0) (by decide +kernel) rfl (by decide) ?_
  refine hw_ald (b := 1) (e := 0) (by decide +kernel) rfl (by decide) ?_
  refine hr_gz (w := φ 78 5) (b := 5) (e := 5) 78 rfl (by decide +kernel) ((hf_up_ne (fun q => absurd q.1 (by decide))).trans ((hf_up_ne (fun q => absurd q.1 (by decide))).trans ((hf_cp_ne (fun q => absurd q.1 (by decide))).trans ((hf_cp_ne (fun q => absurd q.1 (by decide))).trans (hf_cp_ne (fun q => absurd q.1 (by decide))))))) ?_
  obtain ⟨h01_1, H⟩ := H
  refine hr_pz (b := 5) (e := 5) 26 rfl (by decide +kernel) h01_1 ?_
  exact hw_vret (a0 := 0) (e := 0) (by decide +kernel) H
theorem sf_67_26_78 {sc : List Int} {d : Nat} {φ : hf_F} {x : Nat} {Q : Option jm_V → hf_F → Nat → Prop}  (hI : Inv φ)  (hQ : ∀ ψ : hf_F, Inv ψ → Fr [26, 27, 28, 29] φ ψ → Q none ψ x) : hw sc d 67 0 [(0, (2, 26)), (1, (2, 78))] [] φ x Q := by
  apply sf_67_26_78_v
  have i1 : Inv (hf_cp φ 79 27 40) := iv_cp hI (by decide) (by decide +kernel)
  have r1 : Fr [26, 27, 28, 29] φ (hf_cp φ 79 27 40) := fr_cp (fr_rf) (by decide)
  have i2 : Inv (hf_cp (hf_cp φ 79 27 40) 80 28 40) := iv_cp i1 (by decide) (by decide +kernel)
  have r2 : Fr [26, 27, 28, 29] φ (hf_cp (hf_cp φ 79 27 40) 80 28 40) := fr_cp r1 (by decide)
  have i3 : Inv (hf_cp (hf_cp (hf_cp φ 79 27 40) 80 28 40) 81 29 40) := iv_cp i2 (by decide) (by decide +kernel)
  have r3 : Fr [26, 27, 28, 29] φ (hf_cp (hf_cp (hf_cp φ 79 27 40) 80 28 40) 81 29 40) := fr_cp r2 (by decide)
  have f4 := iv_at (a := 78) (k := 3) (lo := 0) (u := 40) hI (by decide +kernel)
  have i5 : Inv (hf_up (hf_cp (hf_cp (hf_cp φ 79 27 40) 80 28 40) 81 29 40) 26 3 (φ 78 3)) := iv_up (lo := 0) (u := 40) i3 (by decide +kernel) (by omega) (by omega)
  have r5 : Fr [26, 27, 28, 29] φ (hf_up (hf_cp (hf_cp (hf_cp φ 79 27 40) 80 28 40) 81 29 40) 26 3 (φ 78 3)) := fr_up r3 (by decide)
  have f6 := iv_at (a := 78) (k := 4) (lo := 0) (u := 20) hI (by decide +kernel)
  have i7 : Inv (hf_up (hf_up (hf_cp (hf_cp (hf_cp φ 79 27 40) 80 28 40) 81 29 40) 26 3 (φ 78 3)) 26 4 (φ 78 4)) := iv_up (lo := 0) (u := 20) i5 (by decide +kernel) (by omega) (by omega)
  have r7 : Fr [26, 27, 28, 29] φ (hf_up (hf_up (hf_cp (hf_cp (hf_cp φ 79 27 40) 80 28 40) 81 29 40) 26 3 (φ 78 3)) 26 4 (φ 78 4)) := fr_up r5 (by decide)
  have f8 := iv_at (a := 78) (k := 5) (lo := 0) (u := 1) hI (by decide +kernel)
  refine ⟨by omega, ?_⟩
  have i9 : Inv (hf_up (hf_up (hf_up (hf_cp (hf_cp (hf_cp φ 79 27 40) 80 28 40) 81 29 40) 26 3 (φ 78 3)) 26 4 (φ 78 4)) 26 5 (φ 78 5)) := iv_up (lo := 0) (u := 1) i7 (by decide +kernel) (by omega) (by omega)
  have r9 : Fr [26, 27, 28, 29] φ (hf_up (hf_up (hf_up (hf_cp (hf_cp (hf_cp φ 79 27 40) 80 28 40) 81 29 40) 26 3 (φ 78 3)) 26 4 (φ 78 4)) 26 5 (φ 78 5)) := fr_up r7 (by decide)
  exact hQ (hf_up (hf_up (hf_up (hf_cp (hf_cp (hf_cp φ 79 27 40) 80 28 40) 81 29 40) 26 3 (φ 78 3)) 26 4 (φ 78 4)) 26 5 (φ 78 5)) i9 r9
theorem sf_64_4_56_v {sc : List Int} {d : Nat} {φ : hf_F} {x : Nat} {Q : Option jm_V → hf_F → Nat → Prop} 
    (H : hw sc d 65 0 [(0, (2, 5)), (1, (2, 57))] [] φ x (fun r ψ1 y1 => y1 = x ∧ (r = none ∧ (hw sc d 66 0 [(0, (2, 17)), (1, (2, 69))] [] ψ1 x (fun r ψ2 y2 => y2 = x ∧ (r = none ∧ (hw sc d 67 0 [(0, (2, 26)), (1, (2, 78))] [] ψ2 x (fun r ψ3 y3 => y3 = x ∧ (r = none ∧ (Q none ψ3 x)))))))))) :
    hw sc (d + 1) 64 0 [(0, (2, 4)), (1, (2, 56))] [] φ x Q := by
  refine hw_ald (b := 0) (e := 0) (by decide +kernel) rfl (by decide) ?_
  refine hr_gr (w := 5) (b := 2) (e := 0) 4 rfl (by decide +kernel) ?_
  refine hw_ald (b := 1) (e := 0) (by decide +kernel) rfl (by decide) ?_
  refine hr_gr (w := 57) (b := 2) (e := 0) 56 rfl (by decide +kernel) ?_
  refine hr_call (a0 := 13) (b := 65) (e := 2) (nl := 2) (As := [(2, 57)]) (R := []) 5 rfl (by decide +kernel) rfl rfl (Nat.le_of_ble_eq_true rfl) (Nat.le_of_ble_eq_true rfl) ?_
  refine hw_mono H ?_
  rintro r ψ1 y1 ⟨hyx, hr, H⟩
  subst hyx
  subst hr
  refine ⟨hnen, ?_⟩
  show hw sc (d + 1) 64 11 [(0, (2, 4)), (1, (2, 56))] [] ψ1 y1 Q
  refine hw_ald (b := 0) (e := 0) (by decide +kernel) rfl (by decide) ?_
  refine hr_gr (w := 17) (b := 2) (e := 1) 4 rfl (by decide +kernel) ?_
  refine hw_ald (b := 1) (e := 0) (by decide +kernel) rfl (by decide) ?_
  refine hr_gr (w := 69) (b := 2) (e := 1) 56 rfl (by decide +kernel) ?_
  refine hr_call (a0 := 14) (b := 66) (e := 2) (nl := 2) (As := [(2, 69)]) (R := []) 17 rfl (by decide +kernel) rfl rfl (Nat.le_of_ble_eq_true rfl) (Nat.le_of_ble_eq_true rfl) ?_
  refine hw_mono H ?_
  rintro r ψ2 y2 ⟨hyx, hr, H⟩
  subst hyx
  subst hr
  refine ⟨hnen, ?_⟩
  show hw sc (d + 1) 64 22 [(0, (2, 4)), (1, (2, 56))] [] ψ2 y2 Q
  refine hw_ald (b := 0) (e := 0) (by decide +kernel) rfl (by decide) ?_
  refine hr_gr (w := 26) (b := 2) (e := 2) 4 rfl (by decide +kernel) ?_
  refine hw_ald (b := 1) (e := 0) (by decide +kernel) rfl (by decide) ?_
  refine hr_gr (w := 78) (b := 2) (e := 2) 56 rfl (by decide +kernel) ?_
  refine hr_call (a0 := 15) (b := 67) (e := 2) (nl := 2) (As := [(2, 78)]) (R := []) 26 rfl (by decide +kernel) rfl rfl (Nat.le_of_ble_eq_true rfl) (Nat.le_of_ble_eq_true rfl) ?_
  refine hw_mono H ?_
  rintro r ψ3 y3 ⟨hyx, hr, H⟩
  subst hyx
  subst hr
  refine ⟨hnen, ?_⟩
  show hw sc (d + 1) 64 33 [(0, (2, 4)), (1, (2, 56))] [] ψ3 y3 Q
  exact hw_vret (a0 := 0) (e := 0) (by decide +kernel) H
theorem sf_64_4_56 {sc : List Int} {d : Nat} {φ : hf_F} {x : Nat} {Q : Option jm_V → hf_F → Nat → Prop}  (hI : Inv φ)  (hQ : ∀ ψ : hf_F, Inv ψ → Fr [6, 7, 8, 9, 10, 11, 12, 13, 14, 15, 16, 17, 18, 19, 20, 21, 22, 23, 24, 25, 26, 27, 28, 29] φ ψ → Q none ψ x) : hw sc (d + 1) 64 0 [(0, (2, 4)), (1, (2, 56))] [] φ x Q := by
  apply sf_64_4_56_v
  refine sf_65_5_57 (φ := φ) hI  (fun ψ1 hI1 hF1 => ⟨rfl, rfl, ?_⟩)
  have hG1 : Fr [6, 7, 8, 9, 10, 11, 12, 13, 14, 15, 16, 17, 18, 19, 20, 21, 22, 23, 24, 25, 26, 27, 28, 29] φ ψ1 := fr_tr (fr_rf) hF1 (by decide)
  refine sf_66_17_69 (φ := ψ1) hI1  (fun ψ2 hI2 hF2 => ⟨rfl, rfl, ?_⟩)
  have hG2 : Fr [6, 7, 8, 9, 10, 11, 12, 13, 14, 15, 16, 17, 18, 19, 20, 21, 22, 23, 24, 25, 26, 27, 28, 29] φ ψ2 := fr_tr hG1 hF2 (by decide)
  refine sf_67_26_78 (φ := ψ2) hI2  (fun ψ3 hI3 hF3 => ⟨rfl, rfl, ?_⟩)
  have hG3 : Fr [6, 7, 8, 9, 10, 11, 12, 13, 14, 15, 16, 17, 18, 19, 20, 21, 22, 23, 24, 25, 26, 27, 28, 29] φ ψ3 := fr_tr hG2 hF3 (by decide)
  exact hQ ψ3 hI3 hG3
theorem sf_157_0_v {sc : List Int} {d : Nat} {φ : hf_F} {x : Nat} {Q : Option jm_V → hf_F → Nat → Prop} {v1 : Int}
    (H : hi v1 ∧ (v1 = 0 → hi v1 ∧ (¬ v1 = 0 → hi (φ 82 3) ∧ (¬ (φ 82 3) = 0 → hw sc (d + 1) 64 0 [(0, (2, 4)), (1, (2, 82))] [] φ x (fun r ψ4 y4 => y4 = x ∧ (r = none ∧ (Q (some (0, 1)) (hf_up ψ4 108 1 0) x)))) ∧ (¬ (¬ (φ 82 3) = 0) → Q (some (0, 0)) φ x)) ∧ (¬ (¬ v1 = 0) → hi (φ 56 3) ∧ (¬ (φ 56 3) = 0 → hw sc (d + 1) 64 0 [(0, (2, 4)), (1, (2, 56))] [] φ x (fun r ψ8 y8 => y8 = x ∧ (r = none ∧ (Q (some (0, 1)) (hf_up ψ8 108 1 0) x)))) ∧ (¬ (¬ (φ 56 3) = 0) → Q (some (0, 0)) φ x))) ∧ (¬ v1 = 0 → hi v1 ∧ hi 1 ∧ (v1 = 1 → hi v1 ∧ (¬ v1 = 0 → hi (φ 82 3) ∧ (¬ (φ 82 3) = 0 → hw sc (d + 1) 64 0 [(0, (2, 4)), (1, (2, 82))] [] φ x (fun r ψ14 y14 => y14 = x ∧ (r = none ∧ (Q (some (0, 1)) (hf_up ψ14 108 1 0) x)))) ∧ (¬ (¬ (φ 82 3) = 0) → Q (some (0, 0)) φ x)) ∧ (¬ (¬ v1 = 0) → hi (φ 56 3) ∧ (¬ (φ 56 3) = 0 → hw sc (d + 1) 64 0 [(0, (2, 4)), (1, (2, 56))] [] φ x (fun r ψ18 y18 => y18 = x ∧ (r = none ∧ (Q (some (0, 1)) (hf_up ψ18 108 1 0) x)))) ∧ (¬ (¬ (φ 56 3) = 0) → Q (some (0, 0)) φ x))) ∧ (¬ v1 = 1 → Q (some (0, 0)) φ x))) :
    hw sc (d + 2) 157 0 [(0, (2, 0)), (1, (0, v1))] [] φ x Q := by
  refine hw_ld (b := 1) (e := 0) (by decide +kernel) rfl ?_
  obtain ⟨hz1, ht1, hf1⟩ := H
  refine hw_if (a0 := 0) (b := 0) (e := 11) (by decide +kernel) hz1 (fun q => ?_) (fun q => ?_)
  · have H := ht1 q
    refine hw_ld (b := 1) (e := 0) (by decide +kernel) rfl ?_
    obtain ⟨hz2, ht2, hf2⟩ := H
    refine hw_if (a0 := 0) (b := 1) (e := 22) (by decide +kernel) hz2 (fun q => ?_) (fun q => ?_)
    · have H := ht2 q
      refine hw_ald (b := 0) (e := 0) (by decide +kernel) rfl (by decide) ?_
      refine hr_gr (w := 82) (b := 0) (e := 4) 0 rfl (by decide +kernel) ?_
      refine hw_ast (L' := (jm_st1 [(0, (2, 0)), (1, (0, v1))] 2 (2, 82))) (b := 2) (e := 0) (by decide +kernel) rfl (by decide) ?_
      refine hw_ald (b := 2) (e := 0) (by decide +kernel) get_st1e (by decide) ?_
      refine hr_gz (w := φ 82 3) (b := 2) (e := 3) 82 rfl (by decide +kernel) rfl ?_
      obtain ⟨hz3, ht3, hf3⟩ := H
      refine hw_if (a0 := 0) (b := 1) (e := 36) (by decide +kernel) hz3 (fun q => ?_) (fun q => ?_)
      · have H := ht3 q
        refine hw_ald (b := 0) (e := 0) (by decide +kernel) (get_st1 rfl (by decide) (fun q => absurd q.1 (by decide))) (by decide) ?_
        refine hr_gr (w := 4) (b := 0) (e := 1) 0 rfl (by decide +kernel) ?_
        refine hw_ald (b := 2) (e := 0) (by decide +kernel) get_st1e (by decide) ?_
        refine hr_call (a0 := 12) (b := 64) (e := 2) (nl := 2) (As := [(2, 82)]) (R := []) 4 rfl (by decide +kernel) rfl rfl (Nat.le_of_ble_eq_true rfl) (Nat.le_of_ble_eq_true rfl) ?_
        refine hw_mono H ?_
        rintro r ψ4 y4 ⟨hyx, hr, H⟩
        subst hyx
        subst hr
        refine ⟨hnen, ?_⟩
        show hw sc (d + 2) 157 44 (jm_st1 [(0, (2, 0)), (1, (0, v1))] 2 (2, 82)) [] ψ4 y4 Q
        refine hw_ald (b := 0) (e := 0) (by decide +kernel) (get_st1 rfl (by decide) (fun q => absurd q.1 (by decide))) (by decide) ?_
        refine hr_gr (w := 108) (b := 0) (e := 5) 0 rfl (by decide +kernel) ?_
        refine hw_k (c := 0) (b := 0) (e := 1) (by decide +kernel) ?_
        refine hr_pi (b := 6) (e := 1) 108 rfl (by decide +kernel) ?_
        refine hw_k (c := 1) (b := 0) (e := 1) (by decide +kernel) ?_
        exact hw_ret (a0 := 0) (e := 1) (by decide +kernel) (Or.inr ⟨rfl, by decide⟩) H
      · have H := hf3 q
        refine hw_k (c := 0) (b := 0) (e := 1) (by decide +kernel) ?_
        exact hw_ret (a0 := 0) (e := 1) (by decide +kernel) (Or.inr ⟨rfl, by decide⟩) H
    · have H := hf2 q
      refine hw_ald (b := 0) (e := 0) (by decide +kernel) rfl (by decide) ?_
      refine hr_gr (w := 56) (b := 0) (e := 3) 0 rfl (by decide +kernel) ?_
      refine hw_goto (a0 := 0) (b := 0) (e := 26) (by decide +kernel) ?_
      refine hw_ast (L' := (jm_st1 [(0, (2, 0)), (1, (0, v1))] 2 (2, 56))) (b := 2) (e := 0) (by decide +kernel) rfl (by decide) ?_
      refine hw_ald (b := 2) (e := 0) (by decide +kernel) get_st1e (by decide) ?_
      refine hr_gz (w := φ 56 3) (b := 2) (e := 3) 56 rfl (by decide +kernel) rfl ?_
      obtain ⟨hz7, ht7, hf7⟩ := H
      refine hw_if (a0 := 0) (b := 1) (e := 36) (by decide +kernel) hz7 (fun q => ?_) (fun q => ?_)
      · have H := ht7 q
        refine hw_ald (b := 0) (e := 0) (by decide +kernel) (get_st1 rfl (by decide) (fun q => absurd q.1 (by decide))) (by decide) ?_
        refine hr_gr (w := 4) (b := 0) (e := 1) 0 rfl (by decide +kernel) ?_
        refine hw_ald (b := 2) (e := 0) (by decide +kernel) get_st1e (by decide) ?_
        refine hr_call (a0 := 12) (b := 64) (e := 2) (nl := 2) (As := [(2, 56)]) (R := []) 4 rfl (by decide +kernel) rfl rfl (Nat.le_of_ble_eq_true rfl) (Nat.le_of_ble_eq_true rfl) ?_
        refine hw_mono H ?_
        rintro r ψ8 y8 ⟨hyx, hr, H⟩
        subst hyx
        subst hr
        refine ⟨hnen, ?_⟩
        show hw sc (d + 2) 157 44 (jm_st1 [(0, (2, 0)), (1, (0, v1))] 2 (2, 56)) [] ψ8 y8 Q
        refine hw_ald (b := 0) (e := 0) (by decide +kernel) (get_st1 rfl (by decide) (fun q => absurd q.1 (by decide))) (by decide) ?_
        refine hr_gr (w := 108) (b := 0) (e := 5) 0 rfl (by decide +kernel) ?_
        refine hw_k (c := 0) (b := 0) (e := 1) (by decide +kernel) ?_
        refine hr_pi (b := 6) (e := 1) 108 rfl (by decide +kernel) ?_
        refine hw_k (c := 1) (b := 0) (e := 1) (by decide +kernel) ?_
        exact hw_ret (a0 := 0) (e := 1) (by decide +kernel) (Or.inr ⟨rfl, by decide⟩) H
      · have H := hf7 q
        refine hw_k (c := 0) (b := 0) (e := 1) (by decide +kernel) ?_
        exact hw_ret (a0 := 0) (e := 1) (by decide +kernel) (Or.inr ⟨rfl, by decide⟩) H
  · have H := hf1 q
    refine hw_ld (b := 1) (e := 0) (by decide +kernel) rfl ?_
    refine hw_k (c := 1) (b := 0) (e := 1) (by decide +kernel) ?_
    obtain ⟨hz11, hy11, ht11, hf11⟩ := H
    refine hw_if2 (a0 := 0) (b := 0) (e := 11) (by decide +kernel) hz11 hy11 (fun q => ?_) (fun q => ?_)
    · have H := ht11 q
      refine hw_ld (b := 1) (e := 0) (by decide +kernel) rfl ?_
      obtain ⟨hz12, ht12, hf12⟩ := H
      refine hw_if (a0 := 0) (b := 1) (e := 22) (by decide +kernel) hz12 (fun q => ?_) (fun q => ?_)
      · have H := ht12 q
        refine hw_ald (b := 0) (e := 0) (by decide +kernel) rfl (by decide) ?_
        refine hr_gr (w := 82) (b := 0) (e := 4) 0 rfl (by decide +kernel) ?_
        refine hw_ast (L' := (jm_st1 [(0, (2, 0)), (1, (0, v1))] 2 (2, 82))) (b := 2) (e := 0) (by decide +kernel) rfl (by decide) ?_
        refine hw_ald (b := 2) (e := 0) (by decide +kernel) get_st1e (by decide) ?_
        refine hr_gz (w := φ 82 3) (b := 2) (e := 3) 82 rfl (by decide +kernel) rfl ?_
        obtain ⟨hz13, ht13, hf13⟩ := H
        refine hw_if (a0 := 0) (b := 1) (e := 36) (by decide +kernel) hz13 (fun q => ?_) (fun q => ?_)
        · have H := ht13 q
          refine hw_ald (b := 0) (e := 0) (by decide +kernel) (get_st1 rfl (by decide) (fun q => absurd q.1 (by decide))) (by decide) ?_
          refine hr_gr (w := 4) (b := 0) (e := 1) 0 rfl (by decide +kernel) ?_
          refine hw_ald (b := 2) (e := 0) (by decide +kernel) get_st1e (by decide) ?_
          refine hr_call (a0 := 12) (b := 64) (e := 2) (nl := 2) (As := [(2, 82)]) (R := []) 4 rfl (by decide +kernel) rfl rfl (Nat.le_of_ble_eq_true rfl) (Nat.le_of_ble_eq_true rfl) ?_
          refine hw_mono H ?_
          rintro r ψ14 y14 ⟨hyx, hr, H⟩
          subst hyx
          subst hr
          refine ⟨hnen, ?_⟩
          show hw sc (d + 2) 157 44 (jm_st1 [(0, (2, 0)), (1, (0, v1))] 2 (2, 82)) [] ψ14 y14 Q
          refine hw_ald (b := 0) (e := 0) (by decide +kernel) (get_st1 rfl (by decide) (fun q => absurd q.1 (by decide))) (by decide) ?_
          refine hr_gr (w := 108) (b := 0) (e := 5) 0 rfl (by decide +kernel) ?_
          refine hw_k (c := 0) (b := 0) (e := 1) (by decide +kernel) ?_
          refine hr_pi (b := 6) (e := 1) 108 rfl (by decide +kernel) ?_
          refine hw_k (c := 1) (b := 0) (e := 1) (by decide +kernel) ?_
          exact hw_ret (a0 := 0) (e := 1) (by decide +kernel) (Or.inr ⟨rfl, by decide⟩) H
        · have H := hf13 q
          refine hw_k (c := 0) (b := 0) (e := 1) (by decide +kernel) ?_
          exact hw_ret (a0 := 0) (e := 1) (by decide +kernel) (Or.inr ⟨rfl, by decide⟩) H
      · have H := hf12 q
        refine hw_ald (b := 0) (e := 0) (by decide +kernel) rfl (by decide) ?_
        refine hr_gr (w := 56) (b := 0) (e := 3) 0 rfl (by decide +kernel) ?_
        refine hw_goto (a0 := 0) (b := 0) (e := 26) (by decide +kernel) ?_
        refine hw_ast (L' := (jm_st1 [(0, (2, 0)), (1, (0, v1))] 2 (2, 56))) (b := 2) (e := 0) (by decide +kernel) rfl (by decide) ?_
        refine hw_ald (b := 2) (e := 0) (by decide +kernel) get_st1e (by decide) ?_
        refine hr_gz (w := φ 56 3) (b := 2) (e := 3) 56 rfl (by decide +kernel) rfl ?_
        obtain ⟨hz17, ht17, hf17⟩ := H
        refine hw_if (a0 := 0) (b := 1) (e := 36) (by decide +kernel) hz17 (fun q => ?_) (fun q => ?_)
        · have H := ht17 q
          refine hw_ald (b := 0) (e := 0) (by decide +kernel) (get_st1 rfl (by decide) (fun q => absurd q.1 (by decide))) (by decide) ?_
          refine hr_gr (w := 4) (b := 0) (e := 1) 0 rfl (by decide +kernel) ?_
          refine hw_ald (b := 2) (e := 0) (by decide +kernel) get_st1e (by decide) ?_
          refine hr_call (a0 := 12) (b := 64) (e := 2) (nl := 2) (As := [(2, 56)]) (R := []) 4 rfl (by decide +kernel) rfl rfl (Nat.le_of_ble_eq_true rfl) (Nat.le_of_ble_eq_true rfl) ?_
          refine hw_mono H ?_
          rintro r ψ18 y18 ⟨hyx, hr, H⟩
          subst hyx
          subst hr
          refine ⟨hnen, ?_⟩
          show hw sc (d + 2) 157 44 (jm_st1 [(0, (2, 0)), (1, (0, v1))] 2 (2, 56)) [] ψ18 y18 Q
          refine hw_ald (b := 0) (e := 0) (by decide +kernel) (get_st1 rfl (by decide) (fun q => absurd q.1 (by decide))) (by decide) ?_
          refine hr_gr (w := 108) (b := 0) (e := 5) 0 rfl (by decide +kernel) ?_
          refine hw_k (c := 0) (b := 0) (e := 1) (by decide +kernel) ?_
          refine hr_pi (b := 6) (e := 1) 108 rfl (by decide +kernel) ?_
          refine hw_k (c := 1) (b := 0) (e := 1) (by decide +kernel) ?_
          exact hw_ret (a0 := 0) (e := 1) (by decide +kernel) (Or.inr ⟨rfl, by decide⟩) H
        · have H := hf17 q
          refine hw_k (c := 0) (b := 0) (e := 1) (by decide +kernel) ?_
          exact hw_ret (a0 := 0) (e := 1) (by decide +kernel) (Or.inr ⟨rfl, by decide⟩) H
    · have H := hf11 q
      refine hw_k (c := 0) (b := 0) (e := 1) (by decide +kernel) ?_
      exact hw_ret (a0 := 0) (e := 1) (by decide +kernel) (Or.inr ⟨rfl, by decide⟩) H
theorem sf_157_0 {sc : List Int} {d : Nat} {φ : hf_F} {x : Nat} {Q : Option jm_V → hf_F → Nat → Prop} {v1 : Int} (hI : Inv φ) (h1a : (-2147483648 : Int) ≤ v1) (h1b : v1 ≤ 2147483647) (hQ : ∀ (r : Int) (ψ : hf_F), Inv ψ → Fr [6, 7, 8, 9, 10, 11, 12, 13, 14, 15, 16, 17, 18, 19, 20, 21, 22, 23, 24, 25, 26, 27, 28, 29, 108] φ ψ → 0 ≤ r ∧ r ≤ 1 → Q (some (0, r)) ψ x) : hw sc (d + 2) 157 0 [(0, (2, 0)), (1, (0, v1))] [] φ x Q := by
  apply sf_157_0_v
  refine ⟨by unfold hi; omega, fun q1 => ?_, fun q1 => ?_⟩
  · skip
    refine ⟨by unfold hi; omega, fun q2 => ?_, fun q2 => ?_⟩
    · skip
      have f1 := iv_at (a := 82) (k := 3) (lo := 0) (u := 1) hI (by decide +kernel)
      refine ⟨by unfold hi; omega, fun q3 => ?_, fun q3 => ?_⟩
      · skip
        refine sf_64_4_82 (φ := φ) hI  (fun ψ4 hI4 hF4 => ⟨rfl, rfl, ?_⟩)
        have hG4 : Fr [6, 7, 8, 9, 10, 11, 12, 13, 14, 15, 16, 17, 18, 19, 20, 21, 22, 23, 24, 25, 26, 27, 28, 29, 108] φ ψ4 := fr_tr (fr_rf) hF4 (by decide)
        have i2 : Inv (hf_up ψ4 108 1 0) := iv_up (lo := 0) (u := 8) hI4 (by decide +kernel) (by omega) (by omega)
        have r2 : Fr [6, 7, 8, 9, 10, 11, 12, 13, 14, 15, 16, 17, 18, 19, 20, 21, 22, 23, 24, 25, 26, 27, 28, 29, 108] φ (hf_up ψ4 108 1 0) := fr_up hG4 (by decide)
        exact hQ 1 (hf_up ψ4 108 1 0) i2 r2 ⟨by omega, by omega⟩
      · skip
        exact hQ 0 φ hI (fr_rf) ⟨by omega, by omega⟩
    · skip
      have f3 := iv_at (a := 56) (k := 3) (lo := 0) (u := 1) hI (by decide +kernel)
      refine ⟨by unfold hi; omega, fun q7 => ?_, fun q7 => ?_⟩
      · skip
        refine sf_64_4_56 (φ := φ) hI  (fun ψ8 hI8 hF8 => ⟨rfl, rfl, ?_⟩)
        have hG8 : Fr [6, 7, 8, 9, 10, 11, 12, 13, 14, 15, 16, 17, 18, 19, 20, 21, 22, 23, 24, 25, 26, 27, 28, 29, 108] φ ψ8 := fr_tr (fr_rf) hF8 (by decide)
        have i4 : Inv (hf_up ψ8 108 1 0) := iv_up (lo := 0) (u := 8) hI8 (by decide +kernel) (by omega) (by omega)
        have r4 : Fr [6, 7, 8, 9, 10, 11, 12, 13, 14, 15, 16, 17, 18, 19, 20, 21, 22, 23, 24, 25, 26, 27, 28, 29, 108] φ (hf_up ψ8 108 1 0) := fr_up hG8 (by decide)
        exact hQ 1 (hf_up ψ8 108 1 0) i4 r4 ⟨by omega, by omega⟩
      · skip
        exact hQ 0 φ hI (fr_rf) ⟨by omega, by omega⟩
  · skip
    refine ⟨by unfold hi; omega, by unfold hi; omega, fun q11 => ?_, fun q11 => ?_⟩
    · skip
      refine ⟨by unfold hi; omega, fun q12 => ?_, fun q12 => ?_⟩
      · skip
        have f5 := iv_at (a := 82) (k := 3) (lo := 0) (u := 1) hI (by decide +kernel)
        refine ⟨by unfold hi; omega, fun q13 => ?_, fun q13 => ?_⟩
        · skip
          refine sf_64_4_82 (φ := φ) hI  (fun ψ14 hI14 hF14 => ⟨rfl, rfl, ?_⟩)
          have hG14 : Fr [6, 7, 8, 9, 10, 11, 12, 13, 14, 15, 16, 17, 18, 19, 20, 21, 22, 23, 24, 25, 26, 27, 28, 29, 108] φ ψ14 := fr_tr (fr_rf) hF14 (by decide)
          have i6 : Inv (hf_up ψ14 108 1 0) := iv_up (lo := 0) (u := 8) hI14 (by decide +kernel) (by omega) (by omega)
          have r6 : Fr [6, 7, 8, 9, 10, 11, 12, 13, 14, 15, 16, 17, 18, 19, 20, 21, 22, 23, 24, 25, 26, 27, 28, 29, 108] φ (hf_up ψ14 108 1 0) := fr_up hG14 (by decide)
          exact hQ 1 (hf_up ψ14 108 1 0) i6 r6 ⟨by omega, by omega⟩
        · skip
          exact hQ 0 φ hI (fr_rf) ⟨by omega, by omega⟩
      · skip
        have f7 := iv_at (a := 56) (k := 3) (lo := 0) (u := 1) hI (by decide +kernel)
        refine ⟨by unfold hi; omega, fun q17 => ?_, fun q17 => ?_⟩
        · skip
          refine sf_64_4_56 (φ := φ) hI  (fun ψ18 hI18 hF18 => ⟨rfl, rfl, ?_⟩)
          have hG18 : Fr [6, 7, 8, 9, 10, 11, 12, 13, 14, 15, 16, 17, 18, 19, 20, 21, 22, 23, 24, 25, 26, 27, 28, 29, 108] φ ψ18 := fr_tr (fr_rf) hF18 (by decide)
          have i8 : Inv (hf_up ψ18 108 1 0) := iv_up (lo := 0) (u := 8) hI18 (by decide +kernel) (by omega) (by omega)
          have r8 : Fr [6, 7, 8, 9, 10, 11, 12, 13, 14, 15, 16, 17, 18, 19, 20, 21, 22, 23, 24, 25, 26, 27, 28, 29, 108] φ (hf_up ψ18 108 1 0) := fr_up hG18 (by decide)
          exact hQ 1 (hf_up ψ18 108 1 0) i8 r8 ⟨by omega, by omega⟩
        · skip
          exact hQ 0 φ hI (fr_rf) ⟨by omega, by omega⟩
    · skip
      exact hQ 0 φ hI (fr_rf) ⟨by omega, by omega⟩
theorem sf_106_0_v {sc : List Int} {d : Nat} {φ : hf_F} {x : Nat} {Q : Option jm_V → hf_F → Nat → Prop} {v1 : Int}
    (H : hw sc (d + 2) 70 0 [(0, (2, 0)), (1, (0, 4)), (2, (0, v1))] [] φ x (fun r ψ1 y1 => y1 = x ∧ (∃ z1 : Int, r = some (0, z1) ∧ (hi z1 ∧ (z1 = 0 → Q (some (0, (-1 : Int))) ψ1 x) ∧ (¬ z1 = 0 → hw sc (d + 2) 107 0 [(0, (2, 187)), (1, (0, v1))] [] ψ1 x (fun r ψ4 y4 => y4 = x ∧ (∃ z4 : Int, r = some (0, z4) ∧ (Q (some (0, z4)) ψ4 x)))))))) :
    hw sc (d + 3) 106 0 [(0, (2, 0)), (1, (0, v1))] [] φ x Q := by
  refine hw_ald (b := 0) (e := 0) (by decide +kernel) rfl (by decide) ?_
  refine hw_k (c := 4) (b := 0) (e := 1) (by decide +kernel) ?_
  refine hw_ld (b := 1) (e := 0) (by decide +kernel) rfl ?_
  refine hr_call (a0 := 10) (b := 70) (e := 3) (nl := 3) (As := [(0, 4), (0, v1)]) (R := []) 0 rfl (by decide +kernel) rfl rfl (Nat.le_of_ble_eq_true rfl) (Nat.le_of_ble_eq_true rfl) ?_
  refine hw_mono H ?_
  rintro r ψ1 y1 ⟨hyx, z1, hr, H⟩
  subst hyx
  subst hr
  refine ⟨hne0, ?_⟩
  show hw sc (d + 3) 106 6 [(0, (2, 0)), (1, (0, v1))] [(0, z1)] ψ1 y1 Q
  obtain ⟨hz2, ht2, hf2⟩ := H
  refine hw_if (a0 := 0) (b := 0) (e := 20) (by decide +kernel) hz2 (fun q => ?_) (fun q => ?_)
  · have H := ht2 q
    refine hw_k (c := (-1 : Int)) (b := 0) (e := 1) (by decide +kernel) ?_
    exact hw_ret (a0 := 0) (e := 0) (by decide +kernel) (Or.inl rfl) H
  · have H := hf2 q
    refine hw_ald (b := 0) (e := 0) (by decide +kernel) rfl (by decide) ?_
    refine hr_gr (w := 187) (b := 0) (e := 8) 0 rfl (by decide +kernel) ?_
    refine hw_ld (b := 1) (e := 0) (by decide +kernel) rfl ?_
    refine hr_call (a0 := 19) (b := 107) (e := 2) (nl := 4) (As := [(0, v1)]) (R := []) 187 rfl (by decide +kernel) rfl rfl (Nat.le_of_ble_eq_true rfl) (Nat.le_of_ble_eq_true rfl) ?_
    refine hw_mono H ?_
    rintro r ψ4 y4 ⟨hyx, z4, hr, H⟩
    subst hyx
    subst hr
    refine ⟨hne0, ?_⟩
    show hw sc (d + 3) 106 17 [(0, (2, 0)), (1, (0, v1))] [(0, z4)] ψ4 y4 Q
    refine hw_goto (a0 := 0) (b := 0) (e := 21) (by decide +kernel) ?_
    exact hw_ret (a0 := 0) (e := 0) (by decide +kernel) (Or.inl rfl) H
theorem sf_106_0 {sc : List Int} {d : Nat} {φ : hf_F} {x : Nat} {Q : Option jm_V → hf_F → Nat → Prop} {v1 : Int} (hI : Inv φ) (h1a : (-2147483648 : Int) ≤ v1) (h1b : v1 ≤ 2147483647) (hQ : ∀ (r : Int) (ψ : hf_F), Inv ψ → Fr [] φ ψ → True → Q (some (0, r)) ψ x) : hw sc (d + 3) 106 0 [(0, (2, 0)), (1, (0, v1))] [] φ x Q := by
  apply sf_106_0_v
  refine sf_70_0_k1_4 (φ := φ) hI (by omega) (by omega) (fun z1 ψ1 hI1 hF1 hp1 => ⟨rfl, z1, rfl, ?_⟩)
  have hG1 : Fr [] φ ψ1 := fr_tr (fr_rf) hF1 (by decide)
  refine ⟨by unfold hi; omega, fun q2 => ?_, fun q2 => ?_⟩
  · skip
    exact hQ (-1 : Int) ψ1 hI1 hG1 trivial
  · skip
    refine sf_107_187 (φ := ψ1) hI1 (by omega) (by omega) (fun z4 ψ4 hI4 hF4 hp4 => ⟨rfl, z4, rfl, ?_⟩)
    have hG4 : Fr [] φ ψ4 := fr_tr hG1 hF4 (by decide)
    exact hQ z4 ψ4 hI4 hG4 trivial
theorem sf_149_52_v {sc : List Int} {d : Nat} {φ : hf_F} {x : Nat} {Q : Option jm_V → hf_F → Nat → Prop} {v1 v2 v3 : Int}
    (H : hi (φ 52 3) ∧ hi 40 ∧ (40 ≤ (φ 52 3) → Q (some (0, 1)) φ x) ∧ (¬ 40 ≤ (φ 52 3) → 0 ≤ (φ 52 3) ∧ (φ 52 3) < 40 ∧ (0 ≤ (φ 52 3) ∧ (φ 52 3) < 40 ∧ (0 ≤ (φ 52 3) ∧ (φ 52 3) < 40 ∧ (Q (some (0, 1)) (hf_up (hf_up (hf_up (hf_up φ 53 ((φ 52 3).toNat) v1) 54 ((φ 52 3).toNat) v2) 55 ((φ 52 3).toNat) v3) 52 3 ((φ 52 3) + 1)) x))))) :
    hw sc d 149 0 [(0, (2, 52)), (1, (0, v1)), (2, (0, v2)), (3, (0, v3))] [] φ x Q := by
  refine hw_ald (b := 0) (e := 0) (by decide +kernel) rfl (by decide) ?_
  refine hr_gi (w := φ 52 3) (b := 5) (e := 3) 52 rfl (by decide +kernel) rfl ?_
  refine hw_k (c := 40) (b := 1) (e := 2) (by decide +kernel) ?_
  obtain ⟨hz1, hy1, ht1, hf1⟩ := H
  refine hw_if2 (a0 := 0) (b := 3) (e := 49) (by decide +kernel) hz1 hy1 (fun q => ?_) (fun q => ?_)
  · have H := ht1 q
    refine hw_k (c := 1) (b := 0) (e := 1) (by decide +kernel) ?_
    exact hw_ret (a0 := 0) (e := 1) (by decide +kernel) (Or.inr ⟨rfl, by decide⟩) H
  · have H := hf1 q
    refine hw_ald (b := 0) (e := 0) (by decide +kernel) rfl (by decide) ?_
    refine hr_gr (w := 53) (b := 5) (e := 0) 52 rfl (by decide +kernel) ?_
    refine hw_ald (b := 0) (e := 0) (by decide +kernel) rfl (by decide) ?_
    refine hr_gi (w := φ 52 3) (b := 5) (e := 3) 52 rfl (by decide +kernel) rfl ?_
    refine hw_ld (b := 1) (e := 0) (by decide +kernel) rfl ?_
    obtain ⟨hl3, hu3, H⟩ := H
    refine hr_as (a0 := 0) (e := 4) (n := 40) 53 rfl (by decide +kernel) hl3 hu3 ?_
    refine hw_ald (b := 0) (e := 0) (by decide +kernel) rfl (by decide) ?_
    refine hr_gr (w := 54) (b := 5) (e := 1) 52 rfl (by decide +kernel) ?_
    refine hw_ald (b := 0) (e := 0) (by decide +kernel) rfl (by decide) ?_
    refine hr_gi (w := φ 52 3) (b := 5) (e := 3) 52 rfl (by decide +kernel) (hf_up_ne (fun q => absurd q.1 (by decide))) ?_
    refine hw_ld (b := 2) (e := 0) (by decide +kernel) rfl ?_
    obtain ⟨hl4, hu4, H⟩ := H
    refine hr_as (a0 := 0) (e := 4) (n := 40) 54 rfl (by decide +kernel) hl4 hu4 ?_
    refine hw_ald (b := 0) (e := 0) (by decide +kernel) rfl (by decide) ?_
    refine hr_gr (w := 55) (b := 5) (e := 2) 52 rfl (by decide +kernel) ?_
    refine hw_ald (b := 0) (e := 0) (by decide +kernel) rfl (by decide) ?_
    refine hr_gi (w := φ 52 3) (b := 5) (e := 3) 52 rfl (by decide +kernel) ((hf_up_ne (fun q => absurd q.1 (by decide))).trans (hf_up_ne (fun q => absurd q.1 (by decide)))) ?_
    refine hw_ld (b := 3) (e := 0) (by decide +kernel) rfl ?_
    obtain ⟨hl5, hu5, H⟩ := H
    refine hr_as (a0 := 0) (e := 4) (n := 40) 55 rfl (by decide +kernel) hl5 hu5 ?_
    refine hw_ald (b := 0) (e := 0) (by decide +kernel) rfl (by decide) ?_
    refine hw_dup (a0 := 0) (e := 0) (by decide +kernel) (by decide) ?_
    refine hr_gi (w := φ 52 3) (b := 5) (e := 3) 52 rfl (by decide +kernel) ((hf_up_ne (fun q => absurd q.1 (by decide))).trans ((hf_up_ne (fun q => absurd q.1 (by decide))).trans (hf_up_ne (fun q => absurd q.1 (by decide))))) ?_
    refine hw_k (c := 1) (b := 0) (e := 1) (by decide +kernel) ?_
    refine hw_bin (w := (φ 52 3) + 1) (a0 := 0) (b := 0) (e := 0) (by decide +kernel) rfl ?_
    refine hr_pi (b := 5) (e := 3) 52 rfl (by decide +kernel) ?_
    refine hw_k (c := 1) (b := 0) (e := 1) (by decide +kernel) ?_
    exact hw_ret (a0 := 0) (e := 1) (by decide +kernel) (Or.inr ⟨rfl, by decide⟩) H
theorem sf_149_52 {sc : List Int} {d : Nat} {φ : hf_F} {x : Nat} {Q : Option jm_V → hf_F → Nat → Prop} {v1 v2 v3 : Int} (hI : Inv φ) (h1a : 0 ≤ v1) (h1b : v1 ≤ 22) (h2a : 0 ≤ v2) (h2b : v2 ≤ 62) (h3a : 0 ≤ v3) (h3b : v3 ≤ 999) (hQ : ∀ (r : Int) (ψ : hf_F), Inv ψ → Fr [52, 53, 54, 55] φ ψ → 0 ≤ r ∧ r ≤ 1 → Q (some (0, r)) ψ x) : hw sc d 149 0 [(0, (2, 52)), (1, (0, v1)), (2, (0, v2)), (3, (0, v3))] [] φ x Q := by
  apply sf_149_52_v
  have f1 := iv_at (a := 52) (k := 3) (lo := 0) (u := 40) hI (by decide +kernel)
  refine ⟨by unfold hi; omega, by unfold hi; omega, fun q1 => ?_, fun q1 => ?_⟩
  · skip
    exact hQ 1 φ hI (fr_rf) ⟨by omega, by omega⟩
  · skip
    refine ⟨by omega, by omega, ?_⟩
    have i2 : Inv (hf_up φ 53 ((φ 52 3).toNat) v1) := iv_upI (s := 0) (t := 40) (lo := 0) (u := 22) (z := φ 52 3) hI (by decide +kernel) (by omega) (by omega) (by omega) (by omega)
    have r2 : Fr [52, 53, 54, 55] φ (hf_up φ 53 ((φ 52 3).toNat) v1) := fr_up (fr_rf) (by decide)
    refine ⟨by omega, by omega, ?_⟩
    have i3 : Inv (hf_up (hf_up φ 53 ((φ 52 3).toNat) v1) 54 ((φ 52 3).toNat) v2) := iv_upI (s := 0) (t := 40) (lo := 0) (u := 62) (z := φ 52 3) i2 (by decide +kernel) (by omega) (by omega) (by omega) (by omega)
    have r3 : Fr [52, 53, 54, 55] φ (hf_up (hf_up φ 53 ((φ 52 3).toNat) v1) 54 ((φ 52 3).toNat) v2) := fr_up r2 (by decide)
    refine ⟨by omega, by omega, ?_⟩
    have i4 : Inv (hf_up (hf_up (hf_up φ 53 ((φ 52 3).toNat) v1) 54 ((φ 52 3).toNat) v2) 55 ((φ 52 3).toNat) v3) := iv_upI (s := 0) (t := 40) (lo := 0) (u := 999) (z := φ 52 3) i3 (by decide +kernel) (by omega) (by omega) (by omega) (by omega)
    have r4 : Fr [52, 53, 54, 55] φ (hf_up (hf_up (hf_up φ 53 ((φ 52 3).toNat) v1) 54 ((φ 52 3).toNat) v2) 55 ((φ 52 3).toNat) v3) := fr_up r3 (by decide)
    have i5 : Inv (hf_up (hf_up (hf_up (hf_up φ 53 ((φ 52 3).toNat) v1) 54 ((φ 52 3).toNat) v2) 55 ((φ 52 3).toNat) v3) 52 3 ((φ 52 3) + 1)) := iv_up (lo := 0) (u := 40) i4 (by decide +kernel) (by omega) (by omega)
    have r5 : Fr [52, 53, 54, 55] φ (hf_up (hf_up (hf_up (hf_up φ 53 ((φ 52 3).toNat) v1) 54 ((φ 52 3).toNat) v2) 55 ((φ 52 3).toNat) v3) 52 3 ((φ 52 3) + 1)) := fr_up r4 (by decide)
    exact hQ 1 (hf_up (hf_up (hf_up (hf_up φ 53 ((φ 52 3).toNat) v1) 54 ((φ 52 3).toNat) v2) 55 ((φ 52 3).toNat) v3) 52 3 ((φ 52 3) + 1)) i5 r5 ⟨by omega, by omega⟩
theorem sf_155_v {sc : List Int} {d : Nat} {φ : hf_F} {x : Nat} {Q : Option jm_V → hf_F → Nat → Prop} {v0 v1 v2 : Int}
    (H : hi v1 ∧ hi 60 ∧ (¬ v1 = 60 → hi v1 ∧ hi 61 ∧ (¬ v1 = 61 → hi v0 ∧ hi v2 ∧ (v0 ≤ v2 → Q (some (0, 0)) φ x) ∧ (¬ v0 ≤ v2 → Q (some (0, 1)) φ x)) ∧ (¬ (¬ v1 = 61) → hi v0 ∧ hi v2 ∧ (¬ v0 = v2 → Q (some (0, 0)) φ x) ∧ (¬ (¬ v0 = v2) → Q (some (0, 1)) φ x))) ∧ (¬ (¬ v1 = 60) → hi v0 ∧ hi v2 ∧ (v2 ≤ v0 → Q (some (0, 0)) φ x) ∧ (¬ v2 ≤ v0 → Q (some (0, 1)) φ x))) :
    hw sc d 155 0 [(0, (0, v0)), (1, (0, v1)), (2, (0, v2))] [] φ x Q := by
  refine hw_ld (b := 1) (e := 0) (by decide +kernel) rfl ?_
  refine hw_k (c := 60) (b := 1) (e := 2) (by decide +kernel) ?_
  obtain ⟨hz1, hy1, ht1, hf1⟩ := H
  refine hw_if2 (a0 := 0) (b := 1) (e := 17) (by decide +kernel) hz1 hy1 (fun q => ?_) (fun q => ?_)
  · have H := ht1 q
    refine hw_ld (b := 1) (e := 0) (by decide +kernel) rfl ?_
    refine hw_k (c := 61) (b := 1) (e := 2) (by decide +kernel) ?_
    obtain ⟨hz2, hy2, ht2, hf2⟩ := H
    refine hw_if2 (a0 := 0) (b := 1) (e := 36) (by decide +kernel) hz2 hy2 (fun q => ?_) (fun q => ?_)
    · have H := ht2 q
      refine hw_ld (b := 0) (e := 0) (by decide +kernel) rfl ?_
      refine hw_ld (b := 2) (e := 0) (by decide +kernel) rfl ?_
      obtain ⟨hz3, hy3, ht3, hf3⟩ := H
      refine hw_if2 (a0 := 0) (b := 5) (e := 45) (by decide +kernel) hz3 hy3 (fun q => ?_) (fun q => ?_)
      · have H := ht3 q
        refine hw_k (c := 0) (b := 0) (e := 1) (by decide +kernel) ?_
        exact hw_ret (a0 := 0) (e := 1) (by decide +kernel) (Or.inr ⟨rfl, by decide⟩) H
      · have H := hf3 q
        refine hw_k (c := 1) (b := 0) (e := 1) (by decide +kernel) ?_
        refine hw_goto (a0 := 0) (b := 0) (e := 46) (by decide +kernel) ?_
        exact hw_ret (a0 := 0) (e := 1) (by decide +kernel) (Or.inr ⟨rfl, by decide⟩) H
    · have H := hf2 q
      refine hw_ld (b := 0) (e := 0) (by decide +kernel) rfl ?_
      refine hw_ld (b := 2) (e := 0) (by decide +kernel) rfl ?_
      obtain ⟨hz6, hy6, ht6, hf6⟩ := H
      refine hw_if2 (a0 := 0) (b := 1) (e := 32) (by decide +kernel) hz6 hy6 (fun q => ?_) (fun q => ?_)
      · have H := ht6 q
        refine hw_k (c := 0) (b := 0) (e := 1) (by decide +kernel) ?_
        refine hw_goto (a0 := 0) (b := 0) (e := 46) (by decide +kernel) ?_
        exact hw_ret (a0 := 0) (e := 1) (by decide +kernel) (Or.inr ⟨rfl, by decide⟩) H
      · have H := hf6 q
        refine hw_k (c := 1) (b := 0) (e := 1) (by decide +kernel) ?_
        refine hw_goto (a0 := 0) (b := 0) (e := 46) (by decide +kernel) ?_
        exact hw_ret (a0 := 0) (e := 1) (by decide +kernel) (Or.inr ⟨rfl, by decide⟩) H
  · have H := hf1 q
    refine hw_ld (b := 0) (e := 0) (by decide +kernel) rfl ?_
    refine hw_ld (b := 2) (e := 0) (by decide +kernel) rfl ?_
    obtain ⟨hz9, hy9, ht9, hf9⟩ := H
    refine hw_if2 (a0 := 0) (b := 3) (e := 15) (by decide +kernel) hz9 hy9 (fun q => ?_) (fun q => ?_)
    · have H := ht9 q
      refine hw_k (c := 0) (b := 0) (e := 1) (by decide +kernel) ?_
      exact hw_ret (a0 := 0) (e := 1) (by decide +kernel) (Or.inr ⟨rfl, by decide⟩) H
    · have H := hf9 q
      refine hw_k (c := 1) (b := 0) (e := 1) (by decide +kernel) ?_
      refine hw_goto (a0 := 0) (b := 0) (e := 16) (by decide +kernel) ?_
      exact hw_ret (a0 := 0) (e := 1) (by decide +kernel) (Or.inr ⟨rfl, by decide⟩) H
theorem sf_155 {sc : List Int} {d : Nat} {φ : hf_F} {x : Nat} {Q : Option jm_V → hf_F → Nat → Prop} {v0 v1 v2 : Int} (hI : Inv φ) (h0a : (-2147483648 : Int) ≤ v0) (h0b : v0 ≤ 2147483647) (h1a : 0 ≤ v1) (h1b : v1 ≤ 62) (h2a : 0 ≤ v2) (h2b : v2 ≤ 999) (hQ : ∀ (r : Int) (ψ : hf_F), Inv ψ → Fr [] φ ψ → 0 ≤ r ∧ r ≤ 1 → Q (some (0, r)) ψ x) : hw sc d 155 0 [(0, (0, v0)), (1, (0, v1)), (2, (0, v2))] [] φ x Q := by
  apply sf_155_v
  refine ⟨by unfold hi; omega, by unfold hi; omega, fun q1 => ?_, fun q1 => ?_⟩
  · skip
    refine ⟨by unfold hi; omega, by unfold hi; omega, fun q2 => ?_, fun q2 => ?_⟩
    · skip
      refine ⟨by unfold hi; omega, by unfold hi; omega, fun q3 => ?_, fun q3 => ?_⟩
      · skip
        exact hQ 0 φ hI (fr_rf) ⟨by omega, by omega⟩
      · skip
        exact hQ 1 φ hI (fr_rf) ⟨by omega, by omega⟩
    · skip
      refine ⟨by unfold hi; omega, by unfold hi; omega, fun q6 => ?_, fun q6 => ?_⟩
      · skip
        exact hQ 0 φ hI (fr_rf) ⟨by omega, by omega⟩
      · skip
        exact hQ 1 φ hI (fr_rf) ⟨by omega, by omega⟩
  · skip
    refine ⟨by unfold hi; omega, by unfold hi; omega, fun q9 => ?_, fun q9 => ?_⟩
    · skip
      exact hQ 0 φ hI (fr_rf) ⟨by omega, by omega⟩
    · skip
      exact hQ 1 φ hI (fr_rf) ⟨by omega, by omega⟩
theorem sf_54_17_v {sc : List Int} {d : Nat} {φ : hf_F} {x : Nat} {Q : Option jm_V → hf_F → Nat → Prop} {v1 : Int}
    (H : 0 ≤ v1 ∧ v1 < 6 ∧ (hi (φ 21 ((v1).toNat)) ∧ hi 6 ∧ ((φ 21 ((v1).toNat)) < 6 → Q (some (0, 0)) φ x) ∧ (¬ (φ 21 ((v1).toNat)) < 6 → Q (some (0, 1)) φ x))) :
    hw sc d 54 0 [(0, (2, 17)), (1, (0, v1))] [] φ x Q := by
  refine hw_ald (b := 0) (e := 0) (by decide +kernel) rfl (by decide) ?_
  refine hr_gr (w := 21) (b := 4) (e := 9) 17 rfl (by decide +kernel) ?_
  refine hw_ld (b := 1) (e := 0) (by decide +kernel) rfl ?_
  obtain ⟨hl1, hu1, H⟩ := H
  refine hr_al (b := 0) (a0 := 0) (e := 0) (n := 6) (w := φ 21 ((v1).toNat)) 21 rfl (by decide +kernel) (by decide) hl1 hu1 rfl ?_
  refine hw_k (c := 6) (b := 1) (e := 2) (by decide +kernel) ?_
  obtain ⟨hz2, hy2, ht2, hf2⟩ := H
  refine hw_if2 (a0 := 0) (b := 2) (e := 15) (by decide +kernel) hz2 hy2 (fun q => ?_) (fun q => ?_)
  · have H := ht2 q
    refine hw_k (c := 0) (b := 0) (e := 1) (by decide +kernel) ?_
    exact hw_ret (a0 := 0) (e := 0) (by decide +kernel) (Or.inl rfl) H
  · have H := hf2 q
    refine hw_k (c := 1) (b := 0) (e := 1) (by decide +kernel) ?_
    refine hw_goto (a0 := 0) (b := 0) (e := 16) (by decide +kernel) ?_
    exact hw_ret (a0 := 0) (e := 0) (by decide +kernel) (Or.inl rfl) H
theorem sf_54_17 {sc : List Int} {d : Nat} {φ : hf_F} {x : Nat} {Q : Option jm_V → hf_F → Nat → Prop} {v1 : Int} (hI : Inv φ) (h1a : 0 ≤ v1) (h1b : v1 ≤ 5) (hQ : ∀ (r : Int) (ψ : hf_F), Inv ψ → Fr [] φ ψ → 0 ≤ r ∧ r ≤ 1 → Q (some (0, r)) ψ x) : hw sc d 54 0 [(0, (2, 17)), (1, (0, v1))] [] φ x Q := by
  apply sf_54_17_v
  refine ⟨by omega, by omega, ?_⟩
  have f1 := iv_ar (a := 21) (s := 0) (t := 6) (lo := 0) (u := 6) (z := v1) hI (by decide +kernel) (by omega) (by omega)
  refine ⟨by unfold hi; omega, by unfold hi; omega, fun q2 => ?_, fun q2 => ?_⟩
  · skip
    exact hQ 0 φ hI (fr_rf) ⟨by omega, by omega⟩
  · skip
    exact hQ 1 φ hI (fr_rf) ⟨by omega, by omega⟩
theorem sf_128_188_v {sc : List Int} {d : Nat} {φ : hf_F} {x : Nat} {Q : Option jm_V → hf_F → Nat → Prop} {v1 : Int}
    (H : hi v1 ∧ (v1 ≤ 0 → Q (some (0, 0)) (hf_up φ 188 0 (((φ 188 0) * 1103515245) + 12345)) x) ∧ (¬ v1 ≤ 0 → hi (hb_ushr (((φ 188 0) * 1103515245) + 12345) 8) ∧ hi v1 ∧ ¬ v1 = 0 ∧ (Q (some (0, (hb_ushr (((φ 188 0) * 1103515245) + 12345) 8).tmod v1)) (hf_up φ 188 0 (((φ 188 0) * 1103515245) + 12345)) x))) :
    hw sc d 128 0 [(0, (2, 188)), (1, (0, v1))] [] φ x Q := by
  refine hw_ald (b := 0) (e := 0) (by decide +kernel) rfl (by decide) ?_
  refine hw_ald (b := 0) (e := 0) (by decide +kernel) rfl (by decide) ?_
  refine hr_gi (w := φ 188 0) (b := 10) (e := 0) 188 rfl (by decide +kernel) rfl ?_
  refine hw_k (c := 1103515245) (b := 3) (e := 2) (by decide +kernel) ?_
  refine hw_bin (w := (φ 188 0) * 1103515245) (a0 := 0) (b := 2) (e := 0) (by decide +kernel) rfl ?_
  refine hw_k (c := 12345) (b := 2) (e := 3) (by decide +kernel) ?_
  refine hw_bin (w := ((φ 188 0) * 1103515245) + 12345) (a0 := 0) (b := 0) (e := 0) (by decide +kernel) rfl ?_
  refine hr_pi (b := 10) (e := 0) 188 rfl (by decide +kernel) ?_
  refine hw_ld (b := 1) (e := 0) (by decide +kernel) rfl ?_
  obtain ⟨hz1, ht1, hf1⟩ := H
  refine hw_if (a0 := 0) (b := 5) (e := 31) (by decide +kernel) hz1 (fun q => ?_) (fun q => ?_)
  · have H := ht1 q
    refine hw_k (c := 0) (b := 0) (e := 1) (by decide +kernel) ?_
    exact hw_ret (a0 := 0) (e := 0) (by decide +kernel) (Or.inl rfl) H
  · have H := hf1 q
    refine hw_ald (b := 0) (e := 0) (by decide +kernel) rfl (by decide) ?_
    refine hr_gi (w := ((φ 188 0) * 1103515245) + 12345) (b := 10) (e := 0) 188 rfl (by decide +kernel) hf_up_eq ?_
    refine hw_k (c := 8) (b := 1) (e := 2) (by decide +kernel) ?_
    refine hw_bin (w := hb_ushr (((φ 188 0) * 1103515245) + 12345) 8) (a0 := 0) (b := 8) (e := 0) (by decide +kernel) rfl ?_
    refine hw_ld (b := 1) (e := 0) (by decide +kernel) rfl ?_
    obtain ⟨hz3, hy3, hn3, H⟩ := H
    refine hw_bin (w := (hb_ushr (((φ 188 0) * 1103515245) + 12345) 8).tmod v1) (a0 := 0) (b := 10) (e := 0) (by decide +kernel) (hb_rem hz3 hy3 hn3) ?_
    refine hw_goto (a0 := 0) (b := 0) (e := 32) (by decide +kernel) ?_
    exact hw_ret (a0 := 0) (e := 0) (by decide +kernel) (Or.inl rfl) H
theorem sf_128_188 {sc : List Int} {d : Nat} {φ : hf_F} {x : Nat} {Q : Option jm_V → hf_F → Nat → Prop} {v1 : Int} (hI : Inv φ) (h1a : 0 ≤ v1) (h1b : v1 ≤ 12) (hQ : ∀ (r : Int) (ψ : hf_F), Inv ψ → Fr [188] φ ψ → 0 ≤ r ∧ r ≤ 11 → Q (some (0, r)) ψ x) : hw sc d 128 0 [(0, (2, 188)), (1, (0, v1))] [] φ x Q := by
  apply sf_128_188_v
  have i1 : Inv (hf_up φ 188 0 (((φ 188 0) * 1103515245) + 12345)) := iv_upn hI (by decide) (by decide +kernel)
  have r1 : Fr [188] φ (hf_up φ 188 0 (((φ 188 0) * 1103515245) + 12345)) := fr_up (fr_rf) (by decide)
  refine ⟨by unfold hi; omega, fun q1 => ?_, fun q1 => ?_⟩
  · skip
    exact hQ 0 (hf_up φ 188 0 (((φ 188 0) * 1103515245) + 12345)) i1 r1 ⟨by omega, by omega⟩
  · skip
    have f2 := hr_ushr8 (((φ 188 0) * 1103515245) + 12345)
    have f3 := hr_ushr (((φ 188 0) * 1103515245) + 12345) 8
    refine ⟨by unfold hi; omega, by unfold hi; omega, by omega, ?_⟩
    have f4 := hr_tmod (z := hb_ushr (((φ 188 0) * 1103515245) + 12345) 8) (y := v1) (by omega) (by omega)
    exact hQ ((hb_ushr (((φ 188 0) * 1103515245) + 12345) 8).tmod v1) (hf_up φ 188 0 (((φ 188 0) * 1103515245) + 12345)) i1 r1 ⟨by omega, by omega⟩
theorem sf_45_31_k1_0_v {sc : List Int} {d : Nat} {φ : hf_F} {x : Nat} {Q : Option jm_V → hf_F → Nat → Prop} {v2 : Int}
    (H : 0 ≤ (0 + (φ 32 0)) ∧ (0 + (φ 32 0)) < 40 ∧ (Q (some (0, φ 32 0)) (hf_up (hf_up φ 33 ((0 + (φ 32 0)).toNat) v2) 32 0 ((φ 32 0) + 1)) x)) :
    hw sc d 45 0 [(0, (2, 31)), (1, (0, 0)), (2, (1, v2))] [] φ x Q := by
  refine hw_ald (b := 0) (e := 0) (by decide +kernel) rfl (by decide) ?_
  refine hr_gr (w := 32) (b := 3) (e := 0) 31 rfl (by decide +kernel) ?_
  refine hw_ld (b := 1) (e := 0) (by decide +kernel) rfl ?_
  refine hr_al (b := 0) (a0 := 0) (e := 0) (n := 5) (w := φ 32 0) 32 rfl (by decide +kernel) (by decide) (by decide) (by decide) rfl ?_
  refine hw_st (L' := (jm_st1 [(0, (2, 31)), (1, (0, 0)), (2, (1, v2))] 4 (0, φ 32 0))) (b := 4) (e := 1) (by decide +kernel) rfl ?_
  refine hw_ald (b := 0) (e := 0) (by decide +kernel) (get_st1 rfl (by decide) (fun q => absurd q.1 (by decide))) (by decide) ?_
  refine hr_gr (w := 33) (b := 3) (e := 1) 31 rfl (by decide +kernel) ?_
  refine hw_ld (b := 1) (e := 0) (by decide +kernel) (get_st1 rfl (by decide) (fun q => absurd q.1 (by decide))) ?_
  refine hw_k (c := 8) (b := 1) (e := 2) (by decide +kernel) ?_
  refine hw_bin (w := 0) (a0 := 0) (b := 2) (e := 0) (by decide +kernel) rfl ?_
  refine hw_ld (b := 4) (e := 1) (by decide +kernel) get_st1e ?_
  refine hw_bin (w := 0 + (φ 32 0)) (a0 := 0) (b := 0) (e := 0) (by decide +kernel) rfl ?_
  refine hw_lld (b := 2) (e := 0) (by decide +kernel) (get_st1 rfl (by decide) (fun q => absurd q.1 (by decide))) ?_
  obtain ⟨hl1, hu1, H⟩ := H
  refine hr_asl (a0 := 0) (e := 4) (n := 40) 33 rfl (by decide +kernel) hl1 hu1 ?_
  refine hw_ald (b := 0) (e := 0) (by decide +kernel) (get_st1 rfl (by decide) (fun q => absurd q.1 (by decide))) (by decide) ?_
  refine hr_gr (w := 32) (b := 3) (e := 0) 31 rfl (by decide +kernel) ?_
  refine hw_ld (b := 1) (e := 0) (by decide +kernel) (get_st1 rfl (by decide) (fun q => absurd q.1 (by decide))) ?_
  refine hw_dup2 (a0 := 0) (e := 0) (by decide +kernel) (by decide) (by decide) ?_
  refine hr_al (b := 0) (a0 := 0) (e := 0) (n := 5) (w := φ 32 0) 32 rfl (by decide +kernel) (by decide) (by decide) (by decide) (hf_up_ne (fun q => absurd q.1 (by decide))) ?_
  refine hw_k (c := 1) (b := 0) (e := 1) (by decide +kernel) ?_
  refine hw_bin (w := (φ 32 0) + 1) (a0 := 0) (b := 0) (e := 0) (by decide +kernel) rfl ?_
  refine hr_as (a0 := 0) (e := 4) (n := 5) 32 rfl (by decide +kernel) (by decide) (by decide) ?_
  refine hw_ld (b := 4) (e := 1) (by decide +kernel) get_st1e ?_
  exact hw_ret (a0 := 0) (e := 0) (by decide +kernel) (Or.inl rfl) H
theorem sf_45_31_k1_0 {sc : List Int} {d : Nat} {φ : hf_F} {x : Nat} {Q : Option jm_V → hf_F → Nat → Prop} {v2 : Int} (hI : Inv φ) (hx0 : 0 ≤ φ 32 0 ∧ φ 32 0 ≤ 2) (hQ : ∀ (r : Int) (ψ : hf_F), Inv ψ → Fr [32, 33] φ ψ → 0 ≤ r ∧ r ≤ 7 ∧ r ≤ 2 → Q (some (0, r)) ψ x) : hw sc d 45 0 [(0, (2, 31)), (1, (0, 0)), (2, (1, v2))] [] φ x Q := by
  apply sf_45_31_k1_0_v
  have f1 := iv_at (a := 32) (k := 0) (lo := 0) (u := 3) hI (by decide +kernel)
  refine ⟨by omega, by omega, ?_⟩
  have i2 : Inv (hf_up φ 33 ((0 + (φ 32 0)).toNat) v2) := iv_upIn hI (by decide) (by decide +kernel)
  have r2 : Fr [32, 33] φ (hf_up φ 33 ((0 + (φ 32 0)).toNat) v2) := fr_up (fr_rf) (by decide)
  have i3 : Inv (hf_up (hf_up φ 33 ((0 + (φ 32 0)).toNat) v2) 32 0 ((φ 32 0) + 1)) := iv_up (lo := 0) (u := 3) i2 (by decide +kernel) (by omega) (by omega)
  have r3 : Fr [32, 33] φ (hf_up (hf_up φ 33 ((0 + (φ 32 0)).toNat) v2) 32 0 ((φ 32 0) + 1)) := fr_up r2 (by decide)
  exact hQ (φ 32 0) (hf_up (hf_up φ 33 ((0 + (φ 32 0)).toNat) v2) 32 0 ((φ 32 0) + 1)) i3 r3 ⟨by omega, by omega, by intros; omega⟩
theorem sf_44_31_v {sc : List Int} {d : Nat} {φ : hf_F} {x : Nat} {Q : Option jm_V → hf_F → Nat → Prop} {v1 v3 v4 : Int}
    (H : hw sc d 45 0 [(0, (2, 31)), (1, (0, 0)), (2, (1, v1))] [] φ x (fun r ψ1 y1 => y1 = x ∧ (∃ z1 : Int, r = some (0, z1) ∧ (0 ≤ z1 ∧ z1 < 3 ∧ (0 ≤ z1 ∧ z1 < 3 ∧ (Q none (hf_up (hf_up ψ1 34 ((z1).toNat) v3) 35 ((z1).toNat) v4) x)))))) :
    hw sc (d + 1) 44 0 [(0, (2, 31)), (1, (1, v1)), (3, (0, v3)), (4, (0, v4))] [] φ x Q := by
  refine hw_ald (b := 0) (e := 0) (by decide +kernel) rfl (by decide) ?_
  refine hw_k (c := 0) (b := 0) (e := 1) (by decide +kernel) ?_
  refine hw_lld (b := 1) (e := 0) (by decide +kernel) rfl ?_
  refine hr_call (a0 := 13) (b := 45) (e := 3) (nl := 5) (As := [(0, 0), (1, v1)]) (R := []) 31 rfl (by decide +kernel) rfl rfl (Nat.le_of_ble_eq_true rfl) (Nat.le_of_ble_eq_true rfl) ?_
  refine hw_mono H ?_
  rintro r ψ1 y1 ⟨hyx, z1, hr, H⟩
  subst hyx
  subst hr
  refine ⟨hne0, ?_⟩
  show hw sc (d + 1) 44 6 [(0, (2, 31)), (1, (1, v1)), (3, (0, v3)), (4, (0, v4))] [(0, z1)] ψ1 y1 Q
  refine hw_st (L' := (jm_st1 [(0, (2, 31)), (1, (1, v1)), (3, (0, v3)), (4, (0, v4))] 5 (0, z1))) (b := 5) (e := 1) (by decide +kernel) rfl ?_
  refine hw_ald (b := 0) (e := 0) (by decide +kernel) (get_st1 rfl (by decide) (fun q => absurd q.1 (by decide))) (by decide) ?_
  refine hr_gr (w := 34) (b := 3) (e := 2) 31 rfl (by decide +kernel) ?_
  refine hw_ld (b := 5) (e := 1) (by decide +kernel) get_st1e ?_
  refine hw_ld (b := 3) (e := 0) (by decide +kernel) (get_st1 rfl (by decide) (fun q => absurd q.1 (by decide))) ?_
  obtain ⟨hl2, hu2, H⟩ := H
  refine hr_as (a0 := 0) (e := 4) (n := 3) 34 rfl (by decide +kernel) hl2 hu2 ?_
  refine hw_ald (b := 0) (e := 0) (by decide +kernel) (get_st1 rfl (by decide) (fun q => absurd q.1 (by decide))) (by decide) ?_
  refine hr_gr (w := 35) (b := 3) (e := 3) 31 rfl (by decide +kernel) ?_
  refine hw_ld (b := 5) (e := 1) (by decide +kernel) get_st1e ?_
  refine hw_ld (b := 4) (e := 1) (by decide +kernel) (get_st1 rfl (by decide) (fun q => tg0 q.2)) ?_
  obtain ⟨hl3, hu3, H⟩ := H
  refine hr_as (a0 := 0) (e := 4) (n := 3) 35 rfl (by decide +kernel) hl3 hu3 ?_
  exact hw_vret (a0 := 0) (e := 0) (by decide +kernel) H
theorem sf_44_31 {sc : List Int} {d : Nat} {φ : hf_F} {x : Nat} {Q : Option jm_V → hf_F → Nat → Prop} {v1 v3 v4 : Int} (hI : Inv φ) (h3a : 2 ≤ v3) (h3b : v3 ≤ 30) (h4a : 1 ≤ v4) (h4b : v4 ≤ 9) (hx0 : 0 ≤ φ 32 0 ∧ φ 32 0 ≤ 2) (hQ : ∀ ψ : hf_F, Inv ψ → Fr [32, 33, 34, 35] φ ψ → Q none ψ x) : hw sc (d + 1) 44 0 [(0, (2, 31)), (1, (1, v1)), (3, (0, v3)), (4, (0, v4))] [] φ x Q := by
  apply sf_44_31_v
  have f1 := iv_at (a := 32) (k := 0) (lo := 0) (u := 3) hI (by decide +kernel)
  refine sf_45_31_k1_0 (φ := φ) hI (by rw [show φ 32 0 = φ 32 0 from rfl]; constructor <;> omega) (fun z1 ψ1 hI1 hF1 hp1 => ⟨rfl, z1, rfl, ?_⟩)
  have hG1 : Fr [32, 33, 34, 35] φ ψ1 := fr_tr (fr_rf) hF1 (by decide)
  refine ⟨by omega, by omega, ?_⟩
  have i2 : Inv (hf_up ψ1 34 ((z1).toNat) v3) := iv_upI (s := 0) (t := 3) (lo := 0) (u := 30) (z := z1) hI1 (by decide +kernel) (by omega) (by omega) (by omega) (by omega)
  have r2 : Fr [32, 33, 34, 35] φ (hf_up ψ1 34 ((z1).toNat) v3) := fr_up hG1 (by decide)
  refine ⟨by omega, by omega, ?_⟩
  have i3 : Inv (hf_up (hf_up ψ1 34 ((z1).toNat) v3) 35 ((z1).toNat) v4) := iv_upI (s := 0) (t := 3) (lo := 0) (u := 9) (z := z1) i2 (by decide +kernel) (by omega) (by omega) (by omega) (by omega)
  have r3 : Fr [32, 33, 34, 35] φ (hf_up (hf_up ψ1 34 ((z1).toNat) v3) 35 ((z1).toNat) v4) := fr_up r2 (by decide)
  exact hQ (hf_up (hf_up ψ1 34 ((z1).toNat) v3) 35 ((z1).toNat) v4) i3 r3
theorem sf_45_31_k1_1_v {sc : List Int} {d : Nat} {φ : hf_F} {x : Nat} {Q : Option jm_V → hf_F → Nat → Prop} {v2 : Int}
    (H : 0 ≤ (8 + (φ 32 1)) ∧ (8 + (φ 32 1)) < 40 ∧ (Q (some (0, φ 32 1)) (hf_up (hf_up φ 33 ((8 + (φ 32 1)).toNat) v2) 32 1 ((φ 32 1) + 1)) x)) :
    hw sc d 45 0 [(0, (2, 31)), (1, (0, 1)), (2, (1, v2))] [] φ x Q := by
  refine hw_ald (b := 0) (e := 0) (by decide +kernel) rfl (by decide) ?_
  refine hr_gr (w := 32) (b := 3) (e := 0) 31 rfl (by decide +kernel) ?_
  refine hw_ld (b := 1) (e := 0) (by decide +kernel) rfl ?_
  refine hr_al (b := 0) (a0 := 0) (e := 0) (n := 5) (w := φ 32 1) 32 rfl (by decide +kernel) (by decide) (by decide) (by decide) rfl ?_
  refine hw_st (L' := (jm_st1 [(0, (2, 31)), (1, (0, 1)), (2, (1, v2))] 4 (0, φ 32 1))) (b := 4) (e := 1) (by decide +kernel) rfl ?_
  refine hw_ald (b := 0) (e := 0) (by decide +kernel) (get_st1 rfl (by decide) (fun q => absurd q.1 (by decide))) (by decide) ?_
  refine hr_gr (w := 33) (b := 3) (e := 1) 31 rfl (by decide +kernel) ?_
  refine hw_ld (b := 1) (e := 0) (by decide +kernel) (get_st1 rfl (by decide) (fun q => absurd q.1 (by decide))) ?_
  refine hw_k (c := 8) (b := 1) (e := 2) (by decide +kernel) ?_
  refine hw_bin (w := 8) (a0 := 0) (b := 2) (e := 0) (by decide +kernel) rfl ?_
  refine hw_ld (b := 4) (e := 1) (by decide +kernel) get_st1e ?_
  refine hw_bin (w := 8 + (φ 32 1)) (a0 := 0) (b := 0) (e := 0) (by decide +kernel) rfl ?_
  refine hw_lld (b := 2) (e := 0) (by decide +kernel) (get_st1 rfl (by decide) (fun q => absurd q.1 (by decide))) ?_
  obtain ⟨hl1, hu1, H⟩ := H
  refine hr_asl (a0 := 0) (e := 4) (n := 40) 33 rfl (by decide +kernel) hl1 hu1 ?_
  refine hw_ald (b := 0) (e := 0) (by decide +kernel) (get_st1 rfl (by decide) (fun q => absurd q.1 (by decide))) (by decide) ?_
  refine hr_gr (w := 32) (b := 3) (e := 0) 31 rfl (by decide +kernel) ?_
  refine hw_ld (b := 1) (e := 0) (by decide +kernel) (get_st1 rfl (by decide) (fun q => absurd q.1 (by decide))) ?_
  refine hw_dup2 (a0 := 0) (e := 0) (by decide +kernel) (by decide) (by decide) ?_
  refine hr_al (b := 0) (a0 := 0) (e := 0) (n := 5) (w := φ 32 1) 32 rfl (by decide +kernel) (by decide) (by decide) (by decide) (hf_up_ne (fun q => absurd q.1 (by decide))) ?_
  refine hw_k (c := 1) (b := 0) (e := 1) (by decide +kernel) ?_
  refine hw_bin (w := (φ 32 1) + 1) (a0 := 0) (b := 0) (e := 0) (by decide +kernel) rfl ?_
  refine hr_as (a0 := 0) (e := 4) (n := 5) 32 rfl (by decide +kernel) (by decide) (by decide) ?_
  refine hw_ld (b := 4) (e := 1) (by decide +kernel) get_st1e ?_
  exact hw_ret (a0 := 0) (e := 0) (by decide +kernel) (Or.inl rfl) H
theorem sf_45_31_k1_1 {sc : List Int} {d : Nat} {φ : hf_F} {x : Nat} {Q : Option jm_V → hf_F → Nat → Prop} {v2 : Int} (hI : Inv φ) (hx0 : 0 ≤ φ 32 1 ∧ φ 32 1 ≤ 7) (hQ : ∀ (r : Int) (ψ : hf_F), Inv ψ → Fr [32, 33] φ ψ → 0 ≤ r ∧ r ≤ 7 ∧ r ≤ 7 → Q (some (0, r)) ψ x) : hw sc d 45 0 [(0, (2, 31)), (1, (0, 1)), (2, (1, v2))] [] φ x Q := by
  apply sf_45_31_k1_1_v
  have f1 := iv_at (a := 32) (k := 1) (lo := 0) (u := 8) hI (by decide +kernel)
  refine ⟨by omega, by omega, ?_⟩
  have i2 : Inv (hf_up φ 33 ((8 + (φ 32 1)).toNat) v2) := iv_upIn hI (by decide) (by decide +kernel)
  have r2 : Fr [32, 33] φ (hf_up φ 33 ((8 + (φ 32 1)).toNat) v2) := fr_up (fr_rf) (by decide)
  have i3 : Inv (hf_up (hf_up φ 33 ((8 + (φ 32 1)).toNat) v2) 32 1 ((φ 32 1) + 1)) := iv_up (lo := 0) (u := 8) i2 (by decide +kernel) (by omega) (by omega)
  have r3 : Fr [32, 33] φ (hf_up (hf_up φ 33 ((8 + (φ 32 1)).toNat) v2) 32 1 ((φ 32 1) + 1)) := fr_up r2 (by decide)
  exact hQ (φ 32 1) (hf_up (hf_up φ 33 ((8 + (φ 32 1)).toNat) v2) 32 1 ((φ 32 1) + 1)) i3 r3 ⟨by omega, by omega, by intros; omega⟩
theorem sf_49_31_v {sc : List Int} {d : Nat} {φ : hf_F} {x : Nat} {Q : Option jm_V → hf_F → Nat → Prop} {v1 v3 : Int}
    (H : hw sc d 45 0 [(0, (2, 31)), (1, (0, 1)), (2, (1, v1))] [] φ x (fun r ψ1 y1 => y1 = x ∧ (∃ z1 : Int, r = some (0, z1) ∧ (0 ≤ z1 ∧ z1 < 8 ∧ (0 ≤ v3 ∧ v3 < 3 ∧ (0 ≤ z1 ∧ z1 < 8 ∧ (0 ≤ v3 ∧ v3 < 3 ∧ (hi (ψ1 34 ((v3).toNat)) ∧ ((ψ1 34 ((v3).toNat)) ≤ 0 → 0 ≤ z1 ∧ z1 < 8 ∧ (Q (some (0, z1)) (hf_up (hf_up (hf_up ψ1 36 ((z1).toNat) v3) 38 ((z1).toNat) (ψ1 34 ((v3).toNat))) 37 ((z1).toNat) 0) x)) ∧ (¬ (ψ1 34 ((v3).toNat)) ≤ 0 → 0 ≤ v3 ∧ v3 < 3 ∧ (0 ≤ v3 ∧ v3 < 3 ∧ (hi (ψ1 35 ((v3).toNat)) ∧ hi (ψ1 34 ((v3).toNat)) ∧ ¬ (ψ1 34 ((v3).toNat)) = 0 ∧ (0 ≤ z1 ∧ z1 < 8 ∧ (Q (some (0, z1)) (hf_up (hf_up (hf_up ψ1 36 ((z1).toNat) v3) 38 ((z1).toNat) (ψ1 34 ((v3).toNat))) 37 ((z1).toNat) ((ψ1 35 ((v3).toNat)).tmod (ψ1 34 ((v3).toNat)))) x))))))))))))) :
    hw sc (d + 1) 49 0 [(0, (2, 31)), (1, (1, v1)), (3, (0, v3))] [] φ x Q := by
  refine hw_ald (b := 0) (e := 0) (by decide +kernel) rfl (by decide) ?_
  refine hw_k (c := 1) (b := 0) (e := 1) (by decide +kernel) ?_
  refine hw_lld (b := 1) (e := 0) (by decide +kernel) rfl ?_
  refine hr_call (a0 := 13) (b := 45) (e := 3) (nl := 5) (As := [(0, 1), (1, v1)]) (R := []) 31 rfl (by decide +kernel) rfl rfl (Nat.le_of_ble_eq_true rfl) (Nat.le_of_ble_eq_true rfl) ?_
  refine hw_mono H ?_
  rintro r ψ1 y1 ⟨hyx, z1, hr, H⟩
  subst hyx
  subst hr
  refine ⟨hne0, ?_⟩
  show hw sc (d + 1) 49 6 [(0, (2, 31)), (1, (1, v1)), (3, (0, v3))] [(0, z1)] ψ1 y1 Q
  refine hw_st (L' := (jm_st1 [(0, (2, 31)), (1, (1, v1)), (3, (0, v3))] 4 (0, z1))) (b := 4) (e := 1) (by decide +kernel) rfl ?_
  refine hw_ald (b := 0) (e := 0) (by decide +kernel) (get_st1 rfl (by decide) (fun q => absurd q.1 (by decide))) (by decide) ?_
  refine hr_gr (w := 36) (b := 3) (e := 4) 31 rfl (by decide +kernel) ?_
  refine hw_ld (b := 4) (e := 1) (by decide +kernel) get_st1e ?_
  refine hw_ld (b := 3) (e := 0) (by decide +kernel) (get_st1 rfl (by decide) (fun q => tg0 q.2)) ?_
  obtain ⟨hl2, hu2, H⟩ := H
  refine hr_as (a0 := 0) (e := 4) (n := 8) 36 rfl (by decide +kernel) hl2 hu2 ?_
  refine hw_ald (b := 0) (e := 0) (by decide +kernel) (get_st1 rfl (by decide) (fun q => absurd q.1 (by decide))) (by decide) ?_
  refine hr_gr (w := 38) (b := 3) (e := 6) 31 rfl (by decide +kernel) ?_
  refine hw_ld (b := 4) (e := 1) (by decide +kernel) get_st1e ?_
  refine hw_ald (b := 0) (e := 0) (by decide +kernel) (get_st1 rfl (by decide) (fun q => absurd q.1 (by decide))) (by decide) ?_
  refine hr_gr (w := 34) (b := 3) (e := 2) 31 rfl (by decide +kernel) ?_
  refine hw_ld (b := 3) (e := 0) (by decide +kernel) (get_st1 rfl (by decide) (fun q => tg0 q.2)) ?_
  obtain ⟨hl3, hu3, H⟩ := H
  refine hr_al (b := 0) (a0 := 0) (e := 0) (n := 3) (w := ψ1 34 ((v3).toNat)) 34 rfl (by decide +kernel) (by decide) hl3 hu3 (hf_up_ne (fun q => absurd q.1 (by decide))) ?_
  obtain ⟨hl4, hu4, H⟩ := H
  refine hr_as (a0 := 0) (e := 4) (n := 8) 38 rfl (by decide +kernel) hl4 hu4 ?_
  refine hw_ald (b := 0) (e := 0) (by decide +kernel) (get_st1 rfl (by decide) (fun q => absurd q.1 (by decide))) (by decide) ?_
  refine hr_gr (w := 37) (b := 3) (e := 5) 31 rfl (by decide +kernel) ?_
  refine hw_ld (b := 4) (e := 1) (by decide +kernel) get_st1e ?_
  refine hw_ald (b := 0) (e := 0) (by decide +kernel) (get_st1 rfl (by decide) (fun q => absurd q.1 (by decide))) (by decide) ?_
  refine hr_gr (w := 34) (b := 3) (e := 2) 31 rfl (by decide +kernel) ?_
  refine hw_ld (b := 3) (e := 0) (by decide +kernel) (get_st1 rfl (by decide) (fun q => tg0 q.2)) ?_
  obtain ⟨hl5, hu5, H⟩ := H
  refine hr_al (b := 0) (a0 := 0) (e := 0) (n := 3) (w := ψ1 34 ((v3).toNat)) 34 rfl (by decide +kernel) (by decide) hl5 hu5 ((hf_up_ne (fun q => absurd q.1 (by decide))).trans (hf_up_ne (fun q => absurd q.1 (by decide)))) ?_
  obtain ⟨hz6, ht6, hf6⟩ := H
  refine hw_if (a0 := 0) (b := 5) (e := 60) (by decide +kernel) hz6 (fun q => ?_) (fun q => ?_)
  · have H := ht6 q
    refine hw_k (c := 0) (b := 0) (e := 1) (by decide +kernel) ?_
    obtain ⟨hl7, hu7, H⟩ := H
    refine hr_as (a0 := 0) (e := 4) (n := 8) 37 rfl (by decide +kernel) hl7 hu7 ?_
    refine hw_ld (b := 4) (e := 1) (by decide +kernel) get_st1e ?_
    exact hw_ret (a0 := 0) (e := 0) (by decide +kernel) (Or.inl rfl) H
  · have H := hf6 q
    refine hw_ald (b := 0) (e := 0) (by decide +kernel) (get_st1 rfl (by decide) (fun q => absurd q.1 (by decide))) (by decide) ?_
    refine hr_gr (w := 35) (b := 3) (e := 3) 31 rfl (by decide +kernel) ?_
    refine hw_ld (b := 3) (e := 0) (by decide +kernel) (get_st1 rfl (by decide) (fun q => tg0 q.2)) ?_
    obtain ⟨hl9, hu9, H⟩ := H
    refine hr_al (b := 0) (a0 := 0) (e := 0) (n := 3) (w := ψ1 35 ((v3).toNat)) 35 rfl (by decide +kernel) (by decide) hl9 hu9 ((hf_up_ne (fun q => absurd q.1 (by decide))).trans (hf_up_ne (fun q => absurd q.1 (by decide)))) ?_
    refine hw_ald (b := 0) (e := 0) (by decide +kernel) (get_st1 rfl (by decide) (fun q => absurd q.1 (by decide))) (by decide) ?_
    refine hr_gr (w := 34) (b := 3) (e := 2) 31 rfl (by decide +kernel) ?_
    refine hw_ld (b := 3) (e := 0) (by decide +kernel) (get_st1 rfl (by decide) (fun q => tg0 q.2)) ?_
    obtain ⟨hl10, hu10, H⟩ := H
    refine hr_al (b := 0) (a0 := 0) (e := 0) (n := 3) (w := ψ1 34 ((v3).toNat)) 34 rfl (by decide +kernel) (by decide) hl10 hu10 ((hf_up_ne (fun q => absurd q.1 (by decide))).trans (hf_up_ne (fun q => absurd q.1 (by decide)))) ?_
    obtain ⟨hz11, hy11, hn11, H⟩ := H
    refine hw_bin (w := (ψ1 35 ((v3).toNat)).tmod (ψ1 34 ((v3).toNat))) (a0 := 0) (b := 10) (e := 0) (by decide +kernel) (hb_rem hz11 hy11 hn11) ?_
    refine hw_goto (a0 := 0) (b := 0) (e := 61) (by decide +kernel) ?_
    obtain ⟨hl12, hu12, H⟩ := H
    refine hr_as (a0 := 0) (e := 4) (n := 8) 37 rfl (by decide +kernel) hl12 hu12 ?_
    refine hw_ld (b := 4) (e := 1) (by decide +kernel) get_st1e ?_
    exact hw_ret (a0 := 0) (e := 0) (by decide +kernel) (Or.inl rfl) H
theorem sf_49_31 {sc : List Int} {d : Nat} {φ : hf_F} {x : Nat} {Q : Option jm_V → hf_F → Nat → Prop} {v1 v3 : Int} (hI : Inv φ) (h3a : 0 ≤ v3) (h3b : v3 ≤ 2) (hx0 : 0 ≤ φ 32 1 ∧ φ 32 1 ≤ 7) (hQ : ∀ (r : Int) (ψ : hf_F), Inv ψ → Fr [32, 33, 36, 37, 38] φ ψ → 0 ≤ r ∧ r ≤ 7 → Q (some (0, r)) ψ x) : hw sc (d + 1) 49 0 [(0, (2, 31)), (1, (1, v1)), (3, (0, v3))] [] φ x Q := by
  apply sf_49_31_v
  have f1 := iv_at (a := 32) (k := 1) (lo := 0) (u := 8) hI (by decide +kernel)
  refine sf_45_31_k1_1 (φ := φ) hI (by rw [show φ 32 1 = φ 32 1 from rfl]; constructor <;> omega) (fun z1 ψ1 hI1 hF1 hp1 => ⟨rfl, z1, rfl, ?_⟩)
  have hG1 : Fr [32, 33, 36, 37, 38] φ ψ1 := fr_tr (fr_rf) hF1 (by decide)
  refine ⟨by omega, by omega, ?_⟩
  have i2 : Inv (hf_up ψ1 36 ((z1).toNat) v3) := iv_upI (s := 0) (t := 8) (lo := 0) (u := 2) (z := z1) hI1 (by decide +kernel) (by omega) (by omega) (by omega) (by omega)
  have r2 : Fr [32, 33, 36, 37, 38] φ (hf_up ψ1 36 ((z1).toNat) v3) := fr_up hG1 (by decide)
  refine ⟨by omega, by omega, ?_⟩
  have f3 := iv_ar (a := 34) (s := 0) (t := 3) (lo := 0) (u := 30) (z := v3) hI1 (by decide +kernel) (by omega) (by omega)
  have f4 : ψ1 34 ((v3).toNat) = φ 34 ((v3).toNat) := (hF1 34 (by decide) ((v3).toNat))
  have f5 := iv_ar (a := 34) (s := 0) (t := 3) (lo := 0) (u := 30) (z := v3) hI (by decide +kernel) (by omega) (by omega)
  refine ⟨by omega, by omega, ?_⟩
  have i6 : Inv (hf_up (hf_up ψ1 36 ((z1).toNat) v3) 38 ((z1).toNat) (ψ1 34 ((v3).toNat))) := iv_upI (s := 0) (t := 8) (lo := 0) (u := 30) (z := z1) i2 (by decide +kernel) (by omega) (by omega) (by omega) (by omega)
  have r6 : Fr [32, 33, 36, 37, 38] φ (hf_up (hf_up ψ1 36 ((z1).toNat) v3) 38 ((z1).toNat) (ψ1 34 ((v3).toNat))) := fr_up r2 (by decide)
  refine ⟨by omega, by omega, ?_⟩
  refine ⟨by unfold hi; omega, fun q6 => ?_, fun q6 => ?_⟩
  · skip
    refine ⟨by omega, by omega, ?_⟩
    have i7 : Inv (hf_up (hf_up (hf_up ψ1 36 ((z1).toNat) v3) 38 ((z1).toNat) (ψ1 34 ((v3).toNat))) 37 ((z1).toNat) 0) := iv_upI (s := 0) (t := 8) (lo := 0) (u := 29) (z := z1) i6 (by decide +kernel) (by omega) (by omega) (by omega) (by omega)
    have r7 : Fr [32, 33, 36, 37, 38] φ (hf_up (hf_up (hf_up ψ1 36 ((z1).toNat) v3) 38 ((z1).toNat) (ψ1 34 ((v3).toNat))) 37 ((z1).toNat) 0) := fr_up r6 (by decide)
    exact hQ z1 (hf_up (hf_up (hf_up ψ1 36 ((z1).toNat) v3) 38 ((z1).toNat) (ψ1 34 ((v3).toNat))) 37 ((z1).toNat) 0) i7 r7 ⟨by omega, by omega⟩
  · skip
    refine ⟨by omega, by omega, ?_⟩
    have f8 := iv_ar (a := 35) (s := 0) (t := 3) (lo := 0) (u := 9) (z := v3) hI1 (by decide +kernel) (by omega) (by omega)
    have f9 : ψ1 35 ((v3).toNat) = φ 35 ((v3).toNat) := (hF1 35 (by decide) ((v3).toNat))
    have f10 := iv_ar (a := 35) (s := 0) (t := 3) (lo := 0) (u := 9) (z := v3) hI (by decide +kernel) (by omega) (by omega)
    refine ⟨by omega, by omega, ?_⟩
    refine ⟨by unfold hi; omega, by unfold hi; omega, by omega, ?_⟩
    have f11 := hr_tmod (z := ψ1 35 ((v3).toNat)) (y := ψ1 34 ((v3).toNat)) (by omega) (by omega)
    refine ⟨by omega, by omega, ?_⟩
    have i12 : Inv (hf_up (hf_up (hf_up ψ1 36 ((z1).toNat) v3) 38 ((z1).toNat) (ψ1 34 ((v3).toNat))) 37 ((z1).toNat) ((ψ1 35 ((v3).toNat)).tmod (ψ1 34 ((v3).toNat)))) := iv_upI (s := 0) (t := 8) (lo := 0) (u := 29) (z := z1) i6 (by decide +kernel) (by omega) (by omega) (by omega) (by omega)
    have r12 : Fr [32, 33, 36, 37, 38] φ (hf_up (hf_up (hf_up ψ1 36 ((z1).toNat) v3) 38 ((z1).toNat) (ψ1 34 ((v3).toNat))) 37 ((z1).toNat) ((ψ1 35 ((v3).toNat)).tmod (ψ1 34 ((v3).toNat)))) := fr_up r6 (by decide)
    exact hQ z1 (hf_up (hf_up (hf_up ψ1 36 ((z1).toNat) v3) 38 ((z1).toNat) (ψ1 34 ((v3).toNat))) 37 ((z1).toNat) ((ψ1 35 ((v3).toNat)).tmod (ψ1 34 ((v3).toNat)))) i12 r12 ⟨by omega, by omega⟩
theorem sf_66_17_110_v {sc : List Int} {d : Nat} {φ : hf_F} {x : Nat} {Q : Option jm_V → hf_F → Nat → Prop} 
    (H : Q none (hf_cp (hf_cp (hf_cp (hf_cp (hf_cp (hf_cp (hf_cp (hf_cp (hf_up (hf_up (hf_up (hf_up (hf_up (hf_up φ 17 0 (φ 110 0)) 17 1 (φ 110 1)) 17 2 (φ 110 2)) 17 3 (φ 110 3)) 17 4 (φ 110 4)) 17 5 (φ 110 5)) 111 18 8) 112 19 8) 113 20 6) 114 21 6) 115 22 36) 116 23 6) 117 24 6) 118 25 8) x) :
    hw sc d 66 0 [(0, (2, 17)), (1, (2, 110))] [] φ x Q := by
  refine hw_ald (b := 0) (e := 0) (by decide +kernel) rfl (by decide) ?_
  refine hw_ald (b := 1) (e := 0) (by decide +kernel) rfl (by decide) ?_
  refine hr_gi (w := φ 110 0) (b := 4) (e := 0) 110 rfl (by decide +kernel) rfl ?_
  refine hr_pi (b := 4) (e := 0) 17 rfl (by decide +kernel) ?_
  refine hw_ald (b := 0) (e := 0) (by decide +kernel) rfl (by decide) ?_
  refine hw_ald (b := 1) (e := 0) (by decide +kernel) rfl (by decide) ?_
  refine hr_gi (w := φ 110 1) (b := 4) (e := 1) 110 rfl (by decide +kernel) (hf_up_ne (fun q => absurd q.1 (by decide))) ?_
  refine hr_pi (b := 4) (e := 1) 17 rfl (by decide +kernel) ?_
  refine hw_ald (b := 0) (e := 0) (by decide +kernel) rfl (by decide) ?_
  refine hw_ald (b := 1) (e := 0) (by decide +kernel) rfl (by decide) ?_
  refine hr_gi (w := φ 110 2) (b := 4) (e := 2) 110 rfl (by decide +kernel) ((hf_up_ne (fun q => absurd q.1 (by decide))).trans (hf_up_ne (fun q => absurd q.1 (by decide)))) ?_
  refine hr_pi (b := 4) (e := 2) 17 rfl (by decide +kernel) ?_
  refine hw_ald (b := 0) (e := 0) (by decide +kernel) rfl (by decide) ?_
  refine hw_ald (b := 1) (e := 0) (by decide +kernel) rfl (by decide) ?_
  refine hr_gi (w := φ 110 3) (b := 4) (e := 3) 110 rfl (by decide +kernel) ((hf_up_ne (fun q => absurd q.1 (by decide))).trans ((hf_up_ne (fun q => absurd q.1 (by decide))).trans (hf_up_ne (fun q => absurd q.1 (by decide))))) ?_
  refine hr_pi (b := 4) (e := 3) 17 rfl (by decide +kernel) ?_
  refine hw_ald (b := 0) (e := 0) (by decide +kernel) rfl (by decide) ?_
  refine hw_ald (b := 1) (e := 0) (by decide +kernel) rfl (by decide) ?_
  refine hr_gi (w := φ 110 4) (b := 4) (e := 4) 110 rfl (by decide +kernel) ((hf_up_ne (fun q => absurd q.1 (by decide))).trans ((hf_up_ne (fun q => absurd q.1 (by decide))).trans ((hf_up_ne (fun q => absurd q.1 (by decide))).trans (hf_up_ne (fun q => absurd q.1 (by decide)))))) ?_
  refine hr_pi (b := 4) (e := 4) 17 rfl (by decide +kernel) ?_
  refine hw_ald (b := 0) (e := 0) (by decide +kernel) rfl (by decide) ?_
  refine hw_ald (b := 1) (e := 0) (by decide +kernel) rfl (by decide) ?_
  refine hr_gi (w := φ 110 5) (b := 4) (e := 5) 110 rfl (by decide +kernel) ((hf_up_ne (fun q => absurd q.1 (by decide))).trans ((hf_up_ne (fun q => absurd q.1 (by decide))).trans ((hf_up_ne (fun q => absurd q.1 (by decide))).trans ((hf_up_ne (fun q => absurd q.1 (by decide))).trans (hf_up_ne (fun q => absurd q.1 (by decide))))))) ?_
  refine hr_pi (b := 4) (e := 5) 17 rfl (by decide +kernel) ?_
  refine hw_ald (b := 1) (e := 0) (by decide +kernel) rfl (by decide) ?_
  refine hr_gr (w := 111) (b := 4) (e := 6) 110 rfl (by decide +kernel) ?_
  refine hw_k (c := 0) (b := 0) (e := 1) (by decide +kernel) ?_
  refine hw_ald (b := 0) (e := 0) (by decide +kernel) rfl (by decide) ?_
  refine hr_gr (w := 18) (b := 4) (e := 6) 17 rfl (by decide +kernel) ?_
  refine hw_k (c := 0) (b := 0) (e := 1) (by decide +kernel) ?_
  refine hw_k (c := 8) (b := 1) (e := 2) (by decide +kernel) ?_
  refine hr_cp (a0 := 0) (b0 := 0) (e := 0) 111 18 8 rfl rfl rfl (by decide +kernel) (Nat.le_of_ble_eq_true rfl) ?_
  refine hw_ald (b := 1) (e := 0) (by decide +kernel) rfl (by decide) ?_
  refine hr_gr (w := 112) (b := 4) (e := 7) 110 rfl (by decide +kernel) ?_
  refine hw_k (c := 0) (b := 0) (e := 1) (by decide +kernel) ?_
  refine hw_ald (b := 0) (e := 0) (by decide +kernel) rfl (by decide) ?_
  refine hr_gr (w := 19) (b := 4) (e := 7) 17 rfl (by decide +kernel) ?_
  refine hw_k (c := 0) (b := 0) (e := 1) (by decide +kernel) ?_
  refine hw_k (c := 8) (b := 1) (e := 2) (by decide +kernel) ?_
  refine hr_cp (a0 := 0) (b0 := 0) (e := 0) 112 19 8 rfl rfl rfl (by decide +kernel) (Nat.le_of_ble_eq_true rfl) ?_
  refine hw_ald (b := 1) (e := 0) (by decide +kernel) rfl (by decide) ?_
  refine hr_gr (w := 113) (b := 4) (e := 8) 110 rfl (by decide +kernel) ?_
  refine hw_k (c := 0) (b := 0) (e := 1) (by decide +kernel) ?_
  refine hw_ald (b := 0) (e := 0) (by decide +kernel) rfl (by decide) ?_
  refine hr_gr (w := 20) (b := 4) (e := 8) 17 rfl (by decide +kernel) ?_
  refine hw_k (c := 0) (b := 0) (e := 1) (by decide +kernel) ?_
  refine hw_k (c := 6) (b := 1) (e := 2) (by decide +kernel) ?_
  refine hr_cp (a0 := 0) (b0 := 0) (e := 0) 113 20 6 rfl rfl rfl (by decide +kernel) (Nat.le_of_ble_eq_true rfl) ?_
  refine hw_ald (b := 1) (e := 0) (by decide +kernel) rfl (by decide) ?_
  refine hr_gr (w := 114) (b := 4) (e := 9) 110 rfl (by decide +kernel) ?_
  refine hw_k (c := 0) (b := 0) (e := 1) (by decide +kernel) ?_
  refine hw_ald (b := 0) (e := 0) (by decide +kernel) rfl (by decide) ?_
  refine hr_gr (w := 21) (b := 4) (e := 9) 17 rfl (by decide +kernel) ?_
  refine hw_k (c := 0) (b := 0) (e := 1) (by decide +kernel) ?_
  refine hw_k (c := 6) (b := 1) (e := 2) (by decide +kernel) ?_
  refine hr_cp (a0 := 0) (b0 := 0) (e := 0) 114 21 6 rfl rfl rfl (by decide +kernel) (Nat.le_of_ble_eq_true rfl) ?_
  refine hw_ald (b := 1) (e := 0) (by decide +kernel) rfl (by decide) ?_
  refine hr_gr (w := 115) (b := 4) (e := 10) 110 rfl (by decide +kernel) ?_
  refine hw_k (c := 0) (b := 0) (e := 1) (by decide +kernel) ?_
  refine hw_ald (b := 0) (e := 0) (by decide +kernel) rfl (by decide) ?_
  refine hr_gr (w := 22) (b := 4) (e := 10) 17 rfl (by decide +kernel) ?_
  refine hw_k (c := 0) (b := 0) (e := 1) (by decide +kernel) ?_
  refine hw_k (c := 36) (b := 1) (e := 2) (by decide +kernel) ?_
  refine hr_cp (a0 := 0) (b0 := 0) (e := 0) 115 22 36 rfl rfl rfl (by decide +kernel) (Nat.le_of_ble_eq_true rfl) ?_
  refine hw_ald (b := 1) (e := 0) (by decide +kernel) rfl (by decide) ?_
  refine hr_gr (w := 116) (b := 4) (e := 11) 110 rfl (by decide +kernel) ?_
  refine hw_k (c := 0) (b := 0) (e := 1) (by decide +kernel) ?_
  refine hw_ald (b := 0) (e := 0) (by decide +kernel) rfl (by decide) ?_
  refine hr_gr (w := 23) (b := 4) (e := 11) 17 rfl (by decide +kernel) ?_
  refine hw_k (c := 0) (b := 0) (e := 1) (by decide +kernel) ?_
  refine hw_k (c := 6) (b := 1) (e := 2) (by decide +kernel) ?_
  refine hr_cp (a0 := 0) (b0 := 0) (e := 0) 116 23 6 rfl rfl rfl (by decide +kernel) (Nat.le_of_ble_eq_true rfl) ?_
  refine hw_ald (b := 1) (e := 0) (by decide +kernel) rfl (by decide) ?_
  refine hr_gr (w := 117) (b := 4) (e := 12) 110 rfl (by decide +kernel) ?_
  refine hw_k (c := 0) (b := 0) (e := 1) (by decide +kernel) ?_
  refine hw_ald (b := 0) (e := 0) (by decide +kernel) rfl (by decide) ?_
  refine hr_gr (w := 24) (b := 4) (e := 12) 17 rfl (by decide +kernel) ?_
  refine hw_k (c := 0) (b := 0) (e := 1) (by decide +kernel) ?_
  refine hw_k (c := 6) (b := 1) (e := 2) (by decide +kernel) ?_
  refine hr_cp (a0 := 0) (b0 := 0) (e := 0) 117 24 6 rfl rfl rfl (by decide +kernel) (Nat.le_of_ble_eq_true rfl) ?_
  refine hw_ald (b := 1) (e := 0) (by decide +kernel) rfl (by decide) ?_
  refine hr_gr (w := 118) (b := 4) (e := 13) 110 rfl (by decide +kernel) ?_
  refine hw_k (c := 0) (b := 0) (e := 1) (by decide +kernel) ?_
  refine hw_ald (b := 0) (e := 0) (by decide +kernel) rfl (by decide) ?_
  refine hr_gr (w := 25) (b := 4) (e := 13) 17 rfl (by decide +kernel) ?_
  refine hw_k (c := 0) (b := 0) (e := 1) (by decide +kernel) ?_
  refine hw_k (c := 8) (b := 1) (e := 2) (by decide +kernel) ?_
  refine hr_cp (a0 := 0) (b0 := 0) (e := 0) 118 25 8 rfl rfl rfl (by decide +kernel) (Nat.le_of_ble_eq_true rfl) ?_
  exact hw_vret (a0 := 0) (e := 0) (by decide +kernel) H
theorem sf_66_17_110 {sc : List Int} {d : Nat} {φ : hf_F} {x : Nat} {Q : Option jm_V → hf_F → Nat → Prop}  (hI : Inv φ)  (hQ : ∀ ψ : hf_F, Inv ψ → Fr [17, 18, 19, 20, 21, 22, 23, 24, 25] φ ψ → Q none ψ x) : hw sc d 66 0 [(0, (2, 17)), (1, (2, 110))] [] φ x Q := by
  apply sf_66_17_110_v
  have i1 : Inv (hf_up φ 17 0 (φ 110 0)) := iv_upn hI (by decide) (by decide +kernel)
  have r1 : Fr [17, 18, 19, 20, 21, 22, 23, 24, 25] φ (hf_up φ 17 0 (φ 110 0)) := fr_up (fr_rf) (by decide)
  have f2 := iv_at (a := 110) (k := 1) (lo := (-1 : Int)) (u := 7) hI (by decide +kernel)
  have i3 : Inv (hf_up (hf_up φ 17 0 (φ 110 0)) 17 1 (φ 110 1)) := iv_up (lo := (-1 : Int)) (u := 7) i1 (by decide +kernel) (by omega) (by omega)
  have r3 : Fr [17, 18, 19, 20, 21, 22, 23, 24, 25] φ (hf_up (hf_up φ 17 0 (φ 110 0)) 17 1 (φ 110 1)) := fr_up r1 (by decide)
  have f4 := iv_at (a := 110) (k := 2) (lo := (-1 : Int)) (u := 5) hI (by decide +kernel)
  have i5 : Inv (hf_up (hf_up (hf_up φ 17 0 (φ 110 0)) 17 1 (φ 110 1)) 17 2 (φ 110 2)) := iv_up (lo := (-1 : Int)) (u := 5) i3 (by decide +kernel) (by omega) (by omega)
  have r5 : Fr [17, 18, 19, 20, 21, 22, 23, 24, 25] φ (hf_up (hf_up (hf_up φ 17 0 (φ 110 0)) 17 1 (φ 110 1)) 17 2 (φ 110 2)) := fr_up r3 (by decide)
  have f6 := iv_at (a := 110) (k := 3) (lo := (-2147483648 : Int)) (u := 2147483647) hI (by decide +kernel)
  have i7 : Inv (hf_up (hf_up (hf_up (hf_up φ 17 0 (φ 110 0)) 17 1 (φ 110 1)) 17 2 (φ 110 2)) 17 3 (φ 110 3)) := iv_up (lo := (-2147483648 : Int)) (u := 2147483647) i5 (by decide +kernel) (by omega) (by omega)
  have r7 : Fr [17, 18, 19, 20, 21, 22, 23, 24, 25] φ (hf_up (hf_up (hf_up (hf_up φ 17 0 (φ 110 0)) 17 1 (φ 110 1)) 17 2 (φ 110 2)) 17 3 (φ 110 3)) := fr_up r5 (by decide)
  have i8 : Inv (hf_up (hf_up (hf_up (hf_up (hf_up φ 17 0 (φ 110 0)) 17 1 (φ 110 1)) 17 2 (φ 110 2)) 17 3 (φ 110 3)) 17 4 (φ 110 4)) := iv_upn i7 (by decide) (by decide +kernel)
  have r8 : Fr [17, 18, 19, 20, 21, 22, 23, 24, 25] φ (hf_up (hf_up (hf_up (hf_up (hf_up φ 17 0 (φ 110 0)) 17 1 (φ 110 1)) 17 2 (φ 110 2)) 17 3 (φ 110 3)) 17 4 (φ 110 4)) := fr_up r7 (by decide)
  have i9 : Inv (hf_up (hf_up (hf_up (hf_up (hf_up (hf_up φ 17 0 (φ 110 0)) 17 1 (φ 110 1)) 17 2 (φ 110 2)) 17 3 (φ 110 3)) 17 4 (φ 110 4)) 17 5 (φ 110 5)) := iv_upn i8 (by decide) (by decide +kernel)
  have r9 : Fr [17, 18, 19, 20, 21, 22, 23, 24, 25] φ (hf_up (hf_up (hf_up (hf_up (hf_up (hf_up φ 17 0 (φ 110 0)) 17 1 (φ 110 1)) 17 2 (φ 110 2)) 17 3 (φ 110 3)) 17 4 (φ 110 4)) 17 5 (φ 110 5)) := fr_up r8 (by decide)
  have i10 : Inv (hf_cp (hf_up (hf_up (hf_up (hf_up (hf_up (hf_up φ 17 0 (φ 110 0)) 17 1 (φ 110 1)) 17 2 (φ 110 2)) 17 3 (φ 110 3)) 17 4 (φ 110 4)) 17 5 (φ 110 5)) 111 18 8) := iv_cp i9 (by decide) (by decide +kernel)
  have r10 : Fr [17, 18, 19, 20, 21, 22, 23, 24, 25] φ (hf_cp (hf_up (hf_up (hf_up (hf_up (hf_up (hf_up φ 17 0 (φ 110 0)) 17 1 (φ 110 1)) 17 2 (φ 110 2)) 17 3 (φ 110 3)) 17 4 (φ 110 4)) 17 5 (φ 110 5)) 111 18 8) := fr_cp r9 (by decide)
  have i11 : Inv (hf_cp (hf_cp (hf_up (hf_up (hf_up (hf_up (hf_up (hf_up φ 17 0 (φ 110 0)) 17 1 (φ 110 1)) 17 2 (φ 110 2)) 17 3 (φ 110 3)) 17 4 (φ 110 4)) 17 5 (φ 110 5)) 111 18 8) 112 19 8) := iv_cp i10 (by decide) (by decide +kernel)
  have r11 : Fr [17, 18, 19, 20, 21, 22, 23, 24, 25] φ (hf_cp (hf_cp (hf_up (hf_up (hf_up (hf_up (hf_up (hf_up φ 17 0 (φ 110 0)) 17 1 (φ 110 1)) 17 2 (φ 110 2)) 17 3 (φ 110 3)) 17 4 (φ 110 4)) 17 5 (φ 110 5)) 111 18 8) 112 19 8) := fr_cp r10 (by decide)
  have i12 : Inv (hf_cp (hf_cp (hf_cp (hf_up (hf_up (hf_up (hf_up (hf_up (hf_up φ 17 0 (φ 110 0)) 17 1 (φ 110 1)) 17 2 (φ 110 2)) 17 3 (φ 110 3)) 17 4 (φ 110 4)) 17 5 (φ 110 5)) 111 18 8) 112 19 8) 113 20 6) := iv_cp i11 (by decide) (by decide +kernel)
  have r12 : Fr [17, 18, 19, 20, 21, 22, 23, 24, 25] φ (hf_cp (hf_cp (hf_cp (hf_up (hf_up (hf_up (hf_up (hf_up (hf_up φ 17 0 (φ 110 0)) 17 1 (φ 110 1)) 17 2 (φ 110 2)) 17 3 (φ 110 3)) 17 4 (φ 110 4)) 17 5 (φ 110 5)) 111 18 8) 112 19 8) 113 20 6) := fr_cp r11 (by decide)
  have i13 : Inv (hf_cp (hf_cp (hf_cp (hf_cp (hf_up (hf_up (hf_up (hf_up (hf_up (hf_up φ 17 0 (φ 110 0)) 17 1 (φ 110 1)) 17 2 (φ 110 2)) 17 3 (φ 110 3)) 17 4 (φ 110 4)) 17 5 (φ 110 5)) 111 18 8) 112 19 8) 113 20 6) 114 21 6) := iv_cp i12 (by decide) (by decide +kernel)
  have r13 : Fr [17, 18, 19, 20, 21, 22, 23, 24, 25] φ (hf_cp (hf_cp (hf_cp (hf_cp (hf_up (hf_up (hf_up (hf_up (hf_up (hf_up φ 17 0 (φ 110 0)) 17 1 (φ 110 1)) 17 2 (φ 110 2)) 17 3 (φ 110 3)) 17 4 (φ 110 4)) 17 5 (φ 110 5)) 111 18 8) 112 19 8) 113 20 6) 114 21 6) := fr_cp r12 (by decide)
  have i14 : Inv (hf_cp (hf_cp (hf_cp (hf_cp (hf_cp (hf_up (hf_up (hf_up (hf_up (hf_up (hf_up φ 17 0 (φ 110 0)) 17 1 (φ 110 1)) 17 2 (φ 110 2)) 17 3 (φ 110 3)) 17 4 (φ 110 4)) 17 5 (φ 110 5)) 111 18 8) 112 19 8) 113 20 6) 114 21 6) 115 22 36) := iv_cp i13 (by decide) (by decide +kernel)
  have r14 : Fr [17, 18, 19, 20, 21, 22, 23, 24, 25] φ (hf_cp (hf_cp (hf_cp (hf_cp (hf_cp (hf_up (hf_up (hf_up (hf_up (hf_up (hf_up φ 17 0 (φ 110 0)) 17 1 (φ 110 1)) 17 2 (φ 110 2)) 17 3 (φ 110 3)) 17 4 (φ 110 4)) 17 5 (φ 110 5)) 111 18 8) 112 19 8) 113 20 6) 114 21 6) 115 22 36) := fr_cp r13 (by decide)
  have i15 : Inv (hf_cp (hf_cp (hf_cp (hf_cp (hf_cp (hf_cp (hf_up (hf_up (hf_up (hf_up (hf_up (hf_up φ 17 0 (φ 110 0)) 17 1 (φ 110 1)) 17 2 (φ 110 2)) 17 3 (φ 110 3)) 17 4 (φ 110 4)) 17 5 (φ 110 5)) 111 18 8) 112 19 8) 113 20 6) 114 21 6) 115 22 36) 116 23 6) := iv_cp i14 (by decide) (by decide +kernel)
  have r15 : Fr [17, 18, 19, 20, 21, 22, 23, 24, 25] φ (hf_cp (hf_cp (hf_cp (hf_cp (hf_cp (hf_cp (hf_up (hf_up (hf_up (hf_up (hf_up (hf_up φ 17 0 (φ 110 0)) 17 1 (φ 110 1)) 17 2 (φ 110 2)) 17 3 (φ 110 3)) 17 4 (φ 110 4)) 17 5 (φ 110 5)) 111 18 8) 112 19 8) 113 20 6) 114 21 6) 115 22 36) 116 23 6) := fr_cp r14 (by decide)
  have i16 : Inv (hf_cp (hf_cp (hf_cp (hf_cp (hf_cp (hf_cp (hf_cp (hf_up (hf_up (hf_up (hf_up (hf_up (hf_up φ 17 0 (φ 110 0)) 17 1 (φ 110 1)) 17 2 (φ 110 2)) 17 3 (φ 110 3)) 17 4 (φ 110 4)) 17 5 (φ 110 5)) 111 18 8) 112 19 8) 113 20 6) 114 21 6) 115 22 36) 116 23 6) 117 24 6) := iv_cp i15 (by decide) (by decide +kernel)
  have r16 : Fr [17, 18, 19, 20, 21, 22, 23, 24, 25] φ (hf_cp (hf_cp (hf_cp (hf_cp (hf_cp (hf_cp (hf_cp (hf_up (hf_up (hf_up (hf_up (hf_up (hf_up φ 17 0 (φ 110 0)) 17 1 (φ 110 1)) 17 2 (φ 110 2)) 17 3 (φ 110 3)) 17 4 (φ 110 4)) 17 5 (φ 110 5)) 111 18 8) 112 19 8) 113 20 6) 114 21 6) 115 22 36) 116 23 6) 117 24 6) := fr_cp r15 (by decide)
  have i17 : Inv (hf_cp (hf_cp (hf_cp (hf_cp (hf_cp (hf_cp (hf_cp (hf_cp (hf_up (hf_up (hf_up (hf_up (hf_up (hf_up φ 17 0 (φ 110 0)) 17 1 (φ 110 1)) 17 2 (φ 110 2)) 17 3 (φ 110 3)) 17 4 (φ 110 4)) 17 5 (φ 110 5)) 111 18 8) 112 19 8) 113 20 6) 114 21 6) 115 22 36) 116 23 6) 117 24 6) 118 25 8) := iv_cp i16 (by decide) (by decide +kernel)
  have r17 : Fr [17, 18, 19, 20, 21, 22, 23, 24, 25] φ (hf_cp (hf_cp (hf_cp (hf_cp (hf_cp (hf_cp (hf_cp (hf_cp (hf_up (hf_up (hf_up (hf_up (hf_up (hf_up φ 17 0 (φ 110 0)) 17 1 (φ 110 1)) 17 2 (φ 110 2)) 17 3 (φ 110 3)) 17 4 (φ 110 4)) 17 5 (φ 110 5)) 111 18 8) 112 19 8) 113 20 6) 114 21 6) 115 22 36) 116 23 6) 117 24 6) 118 25 8) := fr_cp r16 (by decide)
  exact hQ (hf_cp (hf_cp (hf_cp (hf_cp (hf_cp (hf_cp (hf_cp (hf_cp (hf_up (hf_up (hf_up (hf_up (hf_up (hf_up φ 17 0 (φ 110 0)) 17 1 (φ 110 1)) 17 2 (φ 110 2)) 17 3 (φ 110 3)) 17 4 (φ 110 4)) 17 5 (φ 110 5)) 111 18 8) 112 19 8) 113 20 6) 114 21 6) 115 22 36) 116 23 6) 117 24 6) 118 25 8) i17 r17
theorem sf_66_17_119_v {sc : List Int} {d : Nat} {φ : hf_F} {x : Nat} {Q : Option jm_V → hf_F → Nat → Prop} 
    (H : Q none (hf_cp (hf_cp (hf_cp (hf_cp (hf_cp (hf_cp (hf_cp (hf_cp (hf_up (hf_up (hf_up (hf_up (hf_up (hf_up φ 17 0 (φ 119 0)) 17 1 (φ 119 1)) 17 2 (φ 119 2)) 17 3 (φ 119 3)) 17 4 (φ 119 4)) 17 5 (φ 119 5)) 120 18 8) 121 19 8) 122 20 6) 123 21 6) 124 22 36) 125 23 6) 126 24 6) 127 25 8) x) :
    hw sc d 66 0 [(0, (2, 17)), (1, (2, 119))] [] φ x Q := by
  refine hw_ald (b := 0) (e := 0) (by decide +kernel) rfl (by decide) ?_
  refine hw_ald (b := 1) (e := 0) (by decide +kernel) rfl (by decide) ?_
  refine hr_gi (w := φ 119 0) (b := 4) (e := 0) 119 rfl (by decide +kernel) rfl ?_
  refine hr_pi (b := 4) (e := 0) 17 rfl (by decide +kernel) ?_
  refine hw_ald (b := 0) (e := 0) (by decide +kernel) rfl (by decide) ?_
  refine hw_ald (b := 1) (e := 0) (by decide +kernel) rfl (by decide) ?_
  refine hr_gi (w := φ 119 1) (b := 4) (e := 1) 119 rfl (by decide +kernel) (hf_up_ne (fun q => absurd q.1 (by decide))) ?_
  refine hr_pi (b := 4) (e := 1) 17 rfl (by decide +kernel) ?_
  refine hw_ald (b := 0) (e := 0) (by decide +kernel) rfl (by decide) ?_
  refine hw_ald (b := 1) (e := 0) (by decide +kernel) rfl (by decide) ?_
  refine hr_gi (w := φ 119 2) (b := 4) (e := 2) 119 rfl (by decide +kernel) ((hf_up_ne (fun q => absurd q.1 (by decide))).trans (hf_up_ne (fun q => absurd q.1 (by decide)))) ?_
  refine hr_pi (b := 4) (e := 2) 17 rfl (by decide +kernel) ?_
  refine hw_ald (b := 0) (e := 0) (by decide +kernel) rfl (by decide) ?_
  refine hw_ald (b := 1) (e := 0) (by decide +kernel) rfl (by decide) ?_
  refine hr_gi (w := φ 119 3) (b := 4) (e := 3) 119 rfl (by decide +kernel) ((hf_up_ne (fun q => absurd q.1 (by decide))).trans ((hf_up_ne (fun q => absurd q.1 (by decide))).trans (hf_up_ne (fun q => absurd q.1 (by decide))))) ?_
  refine hr_pi (b := 4) (e := 3) 17 rfl (by decide +kernel) ?_
  refine hw_ald (b := 0) (e := 0) (by decide +kernel) rfl (by decide) ?_
  refine hw_ald (b := 1) (e := 0) (by decide +kernel) rfl (by decide) ?_
  refine hr_gi (w := φ 119 4) (b := 4) (e := 4) 119 rfl (by decide +kernel) ((hf_up_ne (fun q => absurd q.1 (by decide))).trans ((hf_up_ne (fun q => absurd q.1 (by decide))).trans ((hf_up_ne (fun q => absurd q.1 (by decide))).trans (hf_up_ne (fun q => absurd q.1 (by decide)))))) ?_
  refine hr_pi (b := 4) (e := 4) 17 rfl (by decide +kernel) ?_
  refine hw_ald (b := 0) (e := 0) (by decide +kernel) rfl (by decide) ?_
  refine hw_ald (b := 1) (e := 0) (by decide +kernel) rfl (by decide) ?_
  refine hr_gi (w := φ 119 5) (b := 4) (e := 5) 119 rfl (by decide +kernel) ((hf_up_ne (fun q => absurd q.1 (by decide))).trans ((hf_up_ne (fun q => absurd q.1 (by decide))).trans ((hf_up_ne (fun q => absurd q.1 (by decide))).trans ((hf_up_ne (fun q => absurd q.1 (by decide))).trans (hf_up_ne (fun q => absurd q.1 (by decide))))))) ?_
  refine hr_pi (b := 4) (e := 5) 17 rfl (by decide +kernel) ?_
  refine hw_ald (b := 1) (e := 0) (by decide +kernel) rfl (by decide) ?_
  refine hr_gr (w := 120) (b := 4) (e := 6) 119 rfl (by decide +kernel) ?_
  refine hw_k (c := 0) (b := 0) (e := 1) (by decide +kernel) ?_
  refine hw_ald (b := 0) (e := 0) (by decide +kernel) rfl (by decide) ?_
  refine hr_gr (w := 18) (b := 4) (e := 6) 17 rfl (by decide +kernel) ?_
  refine hw_k (c := 0) (b := 0) (e := 1) (by decide +kernel) ?_
  refine hw_k (c := 8) (b := 1) (e := 2) (by decide +kernel) ?_
  refine hr_cp (a0 := 0) (b0 := 0) (e := 0) 120 18 8 rfl rfl rfl (by decide +kernel) (Nat.le_of_ble_eq_true rfl) ?_
  refine hw_ald (b := 1) (e := 0) (by decide +kernel) rfl (by decide) ?_
  refine hr_gr (w := 121) (b := 4) (e := 7) 119 rfl (by decide +kernel) ?_
  refine hw_k (c := 0) (b := 0) (e := 1) (by decide +kernel) ?_
  refine hw_ald (b := 0) (e := 0) (by decide +kernel) rfl (by decide) ?_
  refine hr_gr (w := 19) (b := 4) (e := 7) 17 rfl (by decide +kernel) ?_
  refine hw_k (c := 0) (b := 0) (e := 1) (by decide +kernel) ?_
  refine hw_k (c := 8) (b := 1) (e := 2) (by decide +kernel) ?_
  refine hr_cp (a0 := 0) (b0 := 0) (e := 0) 121 19 8 rfl rfl rfl (by decide +kernel) (Nat.le_of_ble_eq_true rfl) ?_
  refine hw_ald (b := 1) (e := 0) (by decide +kernel) rfl (by decide) ?_
  refine hr_gr (w := 122) (b := 4) (e := 8) 119 rfl (by decide +kernel) ?_
  refine hw_k (c := 0) (b := 0) (e := 1) (by decide +kernel) ?_
  refine hw_ald (b := 0) (e := 0) (by decide +kernel) rfl (by decide) ?_
  refine hr_gr (w := 20) (b := 4) (e := 8) 17 rfl (by decide +kernel) ?_
  refine hw_k (c := 0) (b := 0) (e := 1) (by decide +kernel) ?_
  refine hw_k (c := 6) (b := 1) (e := 2) (by decide +kernel) ?_
  refine hr_cp (a0 := 0) (b0 := 0) (e := 0) 122 20 6 rfl rfl rfl (by decide +kernel) (Nat.le_of_ble_eq_true rfl) ?_
  refine hw_ald (b := 1) (e := 0) (by decide +kernel) rfl (by decide) ?_
  refine hr_gr (w := 123) (b := 4) (e := 9) 119 rfl (by decide +kernel) ?_
  refine hw_k (c := 0) (b := 0) (e := 1) (by decide +kernel) ?_
  refine hw_ald (b := 0) (e := 0) (by decide +kernel) rfl (by decide) ?_
  refine hr_gr (w := 21) (b := 4) (e := 9) 17 rfl (by decide +kernel) ?_
  refine hw_k (c := 0) (b := 0) (e := 1) (by decide +kernel) ?_
  refine hw_k (c := 6) (b := 1) (e := 2) (by decide +kernel) ?_
  refine hr_cp (a0 := 0) (b0 := 0) (e := 0) 123 21 6 rfl rfl rfl (by decide +kernel) (Nat.le_of_ble_eq_true rfl) ?_
  refine hw_ald (b := 1) (e := 0) (by decide +kernel) rfl (by decide) ?_
  refine hr_gr (w := 124) (b := 4) (e := 10) 119 rfl (by decide +kernel) ?_
  refine hw_k (c := 0) (b := 0) (e := 1) (by decide +kernel) ?_
  refine hw_ald (b := 0) (e := 0) (by decide +kernel) rfl (by decide) ?_
  refine hr_gr (w := 22) (b := 4) (e := 10) 17 rfl (by decide +kernel) ?_
  refine hw_k (c := 0) (b := 0) (e := 1) (by decide +kernel) ?_
  refine hw_k (c := 36) (b := 1) (e := 2) (by decide +kernel) ?_
  refine hr_cp (a0 := 0) (b0 := 0) (e := 0) 124 22 36 rfl rfl rfl (by decide +kernel) (Nat.le_of_ble_eq_true rfl) ?_
  refine hw_ald (b := 1) (e := 0) (by decide +kernel) rfl (by decide) ?_
  refine hr_gr (w := 125) (b := 4) (e := 11) 119 rfl (by decide +kernel) ?_
  refine hw_k (c := 0) (b := 0) (e := 1) (by decide +kernel) ?_
  refine hw_ald (b := 0) (e := 0) (by decide +kernel) rfl (by decide) ?_
  refine hr_gr (w := 23) (b := 4) (e := 11) 17 rfl (by decide +kernel) ?_
  refine hw_k (c := 0) (b := 0) (e := 1) (by decide +kernel) ?_
  refine hw_k (c := 6) (b := 1) (e := 2) (by decide +kernel) ?_
  refine hr_cp (a0 := 0) (b0 := 0) (e := 0) 125 23 6 rfl rfl rfl (by decide +kernel) (Nat.le_of_ble_eq_true rfl) ?_
  refine hw_ald (b := 1) (e := 0) (by decide +kernel) rfl (by decide) ?_
  refine hr_gr (w := 126) (b := 4) (e := 12) 119 rfl (by decide +kernel) ?_
  refine hw_k (c := 0) (b := 0) (e := 1) (by decide +kernel) ?_
  refine hw_ald (b := 0) (e := 0) (by decide +kernel) rfl (by decide) ?_
  refine hr_gr (w := 24) (b := 4) (e := 12) 17 rfl (by decide +kernel) ?_
  refine hw_k (c := 0) (b := 0) (e := 1) (by decide +kernel) ?_
  refine hw_k (c := 6) (b := 1) (e := 2) (by decide +kernel) ?_
  refine hr_cp (a0 := 0) (b0 := 0) (e := 0) 126 24 6 rfl rfl rfl (by decide +kernel) (Nat.le_of_ble_eq_true rfl) ?_
  refine hw_ald (b := 1) (e := 0) (by decide +kernel) rfl (by decide) ?_
  refine hr_gr (w := 127) (b := 4) (e := 13) 119 rfl (by decide +kernel) ?_
  refine hw_k (c := 0) (b := 0) (e := 1) (by decide +kernel) ?_
  refine hw_ald (b := 0) (e := 0) (by decide +kernel) rfl (by decide) ?_
  refine hr_gr (w := 25) (b := 4) (e := 13) 17 rfl (by decide +kernel) ?_
  refine hw_k (c := 0) (b := 0) (e := 1) (by decide +kernel) ?_
  refine hw_k (c := 8) (b := 1) (e := 2) (by decide +kernel) ?_
  refine hr_cp (a0 := 0) (b0 := 0) (e := 0) 127 25 8 rfl rfl rfl (by decide +kernel) (Nat.le_of_ble_eq_true rfl) ?_
  exact hw_vret (a0 := 0) (e := 0) (by decide +kernel) H
theorem sf_66_17_119 {sc : List Int} {d : Nat} {φ : hf_F} {x : Nat} {Q : Option jm_V → hf_F → Nat → Prop}  (hI : Inv φ)  (hQ : ∀ ψ : hf_F, Inv ψ → Fr [17, 18, 19, 20, 21, 22, 23, 24, 25] φ ψ → Q none ψ x) : hw sc d 66 0 [(0, (2, 17)), (1, (2, 119))] [] φ x Q := by
  apply sf_66_17_119_v
  have i1 : Inv (hf_up φ 17 0 (φ 119 0)) := iv_upn hI (by decide) (by decide +kernel)
  have r1 : Fr [17, 18, 19, 20, 21, 22, 23, 24, 25] φ (hf_up φ 17 0 (φ 119 0)) := fr_up (fr_rf) (by decide)
  have f2 := iv_at (a := 119) (k := 1) (lo := (-1 : Int)) (u := 7) hI (by decide +kernel)
  have i3 : Inv (hf_up (hf_up φ 17 0 (φ 119 0)) 17 1 (φ 119 1)) := iv_up (lo := (-1 : Int)) (u := 7) i1 (by decide +kernel) (by omega) (by omega)
  have r3 : Fr [17, 18, 19, 20, 21, 22, 23, 24, 25] φ (hf_up (hf_up φ 17 0 (φ 119 0)) 17 1 (φ 119 1)) := fr_up r1 (by decide)
  have f4 := iv_at (a := 119) (k := 2) (lo := (-1 : Int)) (u := 5) hI (by decide +kernel)
  have i5 : Inv (hf_up (hf_up (hf_up φ 17 0 (φ 119 0)) 17 1 (φ 119 1)) 17 2 (φ 119 2)) := iv_up (lo := (-1 : Int)) (u := 5) i3 (by decide +kernel) (by omega) (by omega)
  have r5 : Fr [17, 18, 19, 20, 21, 22, 23, 24, 25] φ (hf_up (hf_up (hf_up φ 17 0 (φ 119 0)) 17 1 (φ 119 1)) 17 2 (φ 119 2)) := fr_up r3 (by decide)
  have f6 := iv_at (a := 119) (k := 3) (lo := (-2147483648 : Int)) (u := 2147483647) hI (by decide +kernel)
  have i7 : Inv (hf_up (hf_up (hf_up (hf_up φ 17 0 (φ 119 0)) 17 1 (φ 119 1)) 17 2 (φ 119 2)) 17 3 (φ 119 3)) := iv_up (lo := (-2147483648 : Int)) (u := 2147483647) i5 (by decide +kernel) (by omega) (by omega)
  have r7 : Fr [17, 18, 19, 20, 21, 22, 23, 24, 25] φ (hf_up (hf_up (hf_up (hf_up φ 17 0 (φ 119 0)) 17 1 (φ 119 1)) 17 2 (φ 119 2)) 17 3 (φ 119 3)) := fr_up r5 (by decide)
  have i8 : Inv (hf_up (hf_up (hf_up (hf_up (hf_up φ 17 0 (φ 119 0)) 17 1 (φ 119 1)) 17 2 (φ 119 2)) 17 3 (φ 119 3)) 17 4 (φ 119 4)) := iv_upn i7 (by decide) (by decide +kernel)
  have r8 : Fr [17, 18, 19, 20, 21, 22, 23, 24, 25] φ (hf_up (hf_up (hf_up (hf_up (hf_up φ 17 0 (φ 119 0)) 17 1 (φ 119 1)) 17 2 (φ 119 2)) 17 3 (φ 119 3)) 17 4 (φ 119 4)) := fr_up r7 (by decide)
  have i9 : Inv (hf_up (hf_up (hf_up (hf_up (hf_up (hf_up φ 17 0 (φ 119 0)) 17 1 (φ 119 1)) 17 2 (φ 119 2)) 17 3 (φ 119 3)) 17 4 (φ 119 4)) 17 5 (φ 119 5)) := iv_upn i8 (by decide) (by decide +kernel)
  have r9 : Fr [17, 18, 19, 20, 21, 22, 23, 24, 25] φ (hf_up (hf_up (hf_up (hf_up (hf_up (hf_up φ 17 0 (φ 119 0)) 17 1 (φ 119 1)) 17 2 (φ 119 2)) 17 3 (φ 119 3)) 17 4 (φ 119 4)) 17 5 (φ 119 5)) := fr_up r8 (by decide)
  have i10 : Inv (hf_cp (hf_up (hf_up (hf_up (hf_up (hf_up (hf_up φ 17 0 (φ 119 0)) 17 1 (φ 119 1)) 17 2 (φ 119 2)) 17 3 (φ 119 3)) 17 4 (φ 119 4)) 17 5 (φ 119 5)) 120 18 8) := iv_cp i9 (by decide) (by decide +kernel)
  have r10 : Fr [17, 18, 19, 20, 21, 22, 23, 24, 25] φ (hf_cp (hf_up (hf_up (hf_up (hf_up (hf_up (hf_up φ 17 0 (φ 119 0)) 17 1 (φ 119 1)) 17 2 (φ 119 2)) 17 3 (φ 119 3)) 17 4 (φ 119 4)) 17 5 (φ 119 5)) 120 18 8) := fr_cp r9 (by decide)
  have i11 : Inv (hf_cp (hf_cp (hf_up (hf_up (hf_up (hf_up (hf_up (hf_up φ 17 0 (φ 119 0)) 17 1 (φ 119 1)) 17 2 (φ 119 2)) 17 3 (φ 119 3)) 17 4 (φ 119 4)) 17 5 (φ 119 5)) 120 18 8) 121 19 8) := iv_cp i10 (by decide) (by decide +kernel)
  have r11 : Fr [17, 18, 19, 20, 21, 22, 23, 24, 25] φ (hf_cp (hf_cp (hf_up (hf_up (hf_up (hf_up (hf_up (hf_up φ 17 0 (φ 119 0)) 17 1 (φ 119 1)) 17 2 (φ 119 2)) 17 3 (φ 119 3)) 17 4 (φ 119 4)) 17 5 (φ 119 5)) 120 18 8) 121 19 8) := fr_cp r10 (by decide)
  have i12 : Inv (hf_cp (hf_cp (hf_cp (hf_up (hf_up (hf_up (hf_up (hf_up (hf_up φ 17 0 (φ 119 0)) 17 1 (φ 119 1)) 17 2 (φ 119 2)) 17 3 (φ 119 3)) 17 4 (φ 119 4)) 17 5 (φ 119 5)) 120 18 8) 121 19 8) 122 20 6) := iv_cp i11 (by decide) (by decide +kernel)
  have r12 : Fr [17, 18, 19, 20, 21, 22, 23, 24, 25] φ (hf_cp (hf_cp (hf_cp (hf_up (hf_up (hf_up (hf_up (hf_up (hf_up φ 17 0 (φ 119 0)) 17 1 (φ 119 1)) 17 2 (φ 119 2)) 17 3 (φ 119 3)) 17 4 (φ 119 4)) 17 5 (φ 119 5)) 120 18 8) 121 19 8) 122 20 6) := fr_cp r11 (by decide)
  have i13 : Inv (hf_cp (hf_cp (hf_cp (hf_cp (hf_up (hf_up (hf_up (hf_up (hf_up (hf_up φ 17 0 (φ 119 0)) 17 1 (φ 119 1)) 17 2 (φ 119 2)) 17 3 (φ 119 3)) 17 4 (φ 119 4)) 17 5 (φ 119 5)) 120 18 8) 121 19 8) 122 20 6) 123 21 6) := iv_cp i12 (by decide) (by decide +kernel)
  have r13 : Fr [17, 18, 19, 20, 21, 22, 23, 24, 25] φ (hf_cp (hf_cp (hf_cp (hf_cp (hf_up (hf_up (hf_up (hf_up (hf_up (hf_up φ 17 0 (φ 119 0)) 17 1 (φ 119 1)) 17 2 (φ 119 2)) 17 3 (φ 119 3)) 17 4 (φ 119 4)) 17 5 (φ 119 5)) 120 18 8) 121 19 8) 122 20 6) 123 21 6) := fr_cp r12 (by decide)
  have i14 : Inv (hf_cp (hf_cp (hf_cp (hf_cp (hf_cp (hf_up (hf_up (hf_up (hf_up (hf_up (hf_up φ 17 0 (φ 119 0)) 17 1 (φ 119 1)) 17 2 (φ 119 2)) 17 3 (φ 119 3)) 17 4 (φ 119 4)) 17 5 (φ 119 5)) 120 18 8) 121 19 8) 122 20 6) 123 21 6) 124 22 36) := iv_cp i13 (by decide) (by decide +kernel)
  have r14 : Fr [17, 18, 19, 20, 21, 22, 23, 24, 25] φ (hf_cp (hf_cp (hf_cp (hf_cp (hf_cp (hf_up (hf_up (hf_up (hf_up (hf_up (hf_up φ 17 0 (φ 119 0)) 17 1 (φ 119 1)) 17 2 (φ 119 2)) 17 3 (φ 119 3)) 17 4 (φ 119 4)) 17 5 (φ 119 5)) 120 18 8) 121 19 8) 122 20 6) 123 21 6) 124 22 36) := fr_cp r13 (by decide)
  have i15 : Inv (hf_cp (hf_cp (hf_cp (hf_cp (hf_cp (hf_cp (hf_up (hf_up (hf_up (hf_up (hf_up (hf_up φ 17 0 (φ 119 0)) 17 1 (φ 119 1)) 17 2 (φ 119 2)) 17 3 (φ 119 3)) 17 4 (φ 119 4)) 17 5 (φ 119 5)) 120 18 8) 121 19 8) 122 20 6) 123 21 6) 124 22 36) 125 23 6) := iv_cp i14 (by decide) (by decide +kernel)
  have r15 : Fr [17, 18, 19, 20, 21, 22, 23, 24, 25] φ (hf_cp (hf_cp (hf_cp (hf_cp (hf_cp (hf_cp (hf_up (hf_up (hf_up (hf_up (hf_up (hf_up φ 17 0 (φ 119 0)) 17 1 (φ 119 1)) 17 2 (φ 119 2)) 17 3 (φ 119 3)) 17 4 (φ 119 4)) 17 5 (φ 119 5)) 120 18 8) 121 19 8) 122 20 6) 123 21 6) 124 22 36) 125 23 6) := fr_cp r14 (by decide)
  have i16 : Inv (hf_cp (hf_cp (hf_cp (hf_cp (hf_cp (hf_cp (hf_cp (hf_up (hf_up (hf_up (hf_up (hf_up (hf_up φ 17 0 (φ 119 0)) 17 1 (φ 119 1)) 17 2 (φ 119 2)) 17 3 (φ 119 3)) 17 4 (φ 119 4)) 17 5 (φ 119 5)) 120 18 8) 121 19 8) 122 20 6) 123 21 6) 124 22 36) 125 23 6) 126 24 6) := iv_cp i15 (by decide) (by decide +kernel)
  have r16 : Fr [17, 18, 19, 20, 21, 22, 23, 24, 25] φ (hf_cp (hf_cp (hf_cp (hf_cp (hf_cp (hf_cp (hf_cp (hf_up (hf_up (hf_up (hf_up (hf_up (hf_up φ 17 0 (φ 119 0)) 17 1 (φ 119 1)) 17 2 (φ 119 2)) 17 3 (φ 119 3)) 17 4 (φ 119 4)) 17 5 (φ 119 5)) 120 18 8) 121 19 8) 122 20 6) 123 21 6) 124 22 36) 125 23 6) 126 24 6) := fr_cp r15 (by decide)
  have i17 : Inv (hf_cp (hf_cp (hf_cp (hf_cp (hf_cp (hf_cp (hf_cp (hf_cp (hf_up (hf_up (hf_up (hf_up (hf_up (hf_up φ 17 0 (φ 119 0)) 17 1 (φ 119 1)) 17 2 (φ 119 2)) 17 3 (φ 119 3)) 17 4 (φ 119 4)) 17 5 (φ 119 5)) 120 18 8) 121 19 8) 122 20 6) 123 21 6) 124 22 36) 125 23 6) 126 24 6) 127 25 8) := iv_cp i16 (by decide) (by decide +kernel)
  have r17 : Fr [17, 18, 19, 20, 21, 22, 23, 24, 25] φ (hf_cp (hf_cp (hf_cp (hf_cp (hf_cp (hf_cp (hf_cp (hf_cp (hf_up (hf_up (hf_up (hf_up (hf_up (hf_up φ 17 0 (φ 119 0)) 17 1 (φ 119 1)) 17 2 (φ 119 2)) 17 3 (φ 119 3)) 17 4 (φ 119 4)) 17 5 (φ 119 5)) 120 18 8) 121 19 8) 122 20 6) 123 21 6) 124 22 36) 125 23 6) 126 24 6) 127 25 8) := fr_cp r16 (by decide)
  exact hQ (hf_cp (hf_cp (hf_cp (hf_cp (hf_cp (hf_cp (hf_cp (hf_cp (hf_up (hf_up (hf_up (hf_up (hf_up (hf_up φ 17 0 (φ 119 0)) 17 1 (φ 119 1)) 17 2 (φ 119 2)) 17 3 (φ 119 3)) 17 4 (φ 119 4)) 17 5 (φ 119 5)) 120 18 8) 121 19 8) 122 20 6) 123 21 6) 124 22 36) 125 23 6) 126 24 6) 127 25 8) i17 r17
theorem sf_66_17_128_v {sc : List Int} {d : Nat} {φ : hf_F} {x : Nat} {Q : Option jm_V → hf_F → Nat → Prop} 
    (H : Q none (hf_cp (hf_cp (hf_cp (hf_cp (hf_cp (hf_cp (hf_cp (hf_cp (hf_up (hf_up (hf_up (hf_up (hf_up (hf_up φ 17 0 (φ 128 0)) 17 1 (φ 128 1)) 17 2 (φ 128 2)) 17 3 (φ 128 3)) 17 4 (φ 128 4)) 17 5 (φ 128 5)) 129 18 8) 130 19 8) 131 20 6) 132 21 6) 133 22 36) 134 23 6) 135 24 6) 136 25 8) x) :
    hw sc d 66 0 [(0, (2, 17)), (1, (2, 128))] [] φ x Q := by
  refine hw_ald (b := 0) (e := 0) (by decide +kernel) rfl (by decide) ?_
  refine hw_ald (b := 1) (e := 0) (by decide +kernel) rfl (by decide) ?_
  refine hr_gi (w := φ 128 0) (b := 4) (e := 0) 128 rfl (by decide +kernel) rfl ?_
  refine hr_pi (b := 4) (e := 0) 17 rfl (by decide +kernel) ?_
  refine hw_ald (b := 0) (e := 0) (by decide +kernel) rfl (by decide) ?_
  refine hw_ald (b := 1) (e := 0) (by decide +kernel) rfl (by decide) ?_
  refine hr_gi (w := φ 128 1) (b := 4) (e := 1) 128 rfl (by decide +kernel) (hf_up_ne (fun q => absurd q.1 (by decide))) ?_
  refine hr_pi (b := 4) (e := 1) 17 rfl (by decide +kernel) ?_
  refine hw_ald (b := 0) (e := 0) (by decide +kernel) rfl (by decide) ?_
  refine hw_ald (b := 1) (e := 0) (by decide +kernel) rfl (by decide) ?_
  refine hr_gi (w := φ 128 2) (b := 4) (e := 2) 128 rfl (by decide +kernel) ((hf_up_ne (fun q => absurd q.1 (by decide))).trans (hf_up_ne (fun q => absurd q.1 (by decide)))) ?_
  refine hr_pi (b := 4) (e := 2) 17 rfl (by decide +kernel) ?_
  refine hw_ald (b := 0) (e := 0) (by decide +kernel) rfl (by decide) ?_
  refine hw_ald (b := 1) (e := 0) (by decide +kernel) rfl (by decide) ?_
  refine hr_gi (w := φ 128 3) (b := 4) (e := 3) 128 rfl (by decide +kernel) ((hf_up_ne (fun q => absurd q.1 (by decide))).trans ((hf_up_ne (fun q => absurd q.1 (by decide))).trans (hf_up_ne (fun q => absurd q.1 (by decide))))) ?_
  refine hr_pi (b := 4) (e := 3) 17 rfl (by decide +kernel) ?_
  refine hw_ald (b := 0) (e := 0) (by decide +kernel) rfl (by decide) ?_
  refine hw_ald (b := 1) (e := 0) (by decide +kernel) rfl (by decide) ?_
  refine hr_gi (w := φ 128 4) (b := 4) (e := 4) 128 rfl (by decide +kernel) ((hf_up_ne (fun q => absurd q.1 (by decide))).trans ((hf_up_ne (fun q => absurd q.1 (by decide))).trans ((hf_up_ne (fun q => absurd q.1 (by decide))).trans (hf_up_ne (fun q => absurd q.1 (by decide)))))) ?_
  refine hr_pi (b := 4) (e := 4) 17 rfl (by decide +kernel) ?_
  refine hw_ald (b := 0) (e := 0) (by decide +kernel) rfl (by decide) ?_
  refine hw_ald (b := 1) (e := 0) (by decide +kernel) rfl (by decide) ?_
  refine hr_gi (w := φ 128 5) (b := 4) (e := 5) 128 rfl (by decide +kernel) ((hf_up_ne (fun q => absurd q.1 (by decide))).trans ((hf_up_ne (fun q => absurd q.1 (by decide))).trans ((hf_up_ne (fun q => absurd q.1 (by decide))).trans ((hf_up_ne (fun q => absurd q.1 (by decide))).trans (hf_up_ne (fun q => absurd q.1 (by decide))))))) ?_
  refine hr_pi (b := 4) (e := 5) 17 rfl (by decide +kernel) ?_
  refine hw_ald (b := 1) (e := 0) (by decide +kernel) rfl (by decide) ?_
  refine hr_gr (w := 129) (b := 4) (e := 6) 128 rfl (by decide +kernel) ?_
  refine hw_k (c := 0) (b := 0) (e := 1) (by decide +kernel) ?_
  refine hw_ald (b := 0) (e := 0) (by decide +kernel) rfl (by decide) ?_
  refine hr_gr (w := 18) (b := 4) (e := 6) 17 rfl (by decide +kernel) ?_
  refine hw_k (c := 0) (b := 0) (e := 1) (by decide +kernel) ?_
  refine hw_k (c := 8) (b := 1) (e := 2) (by decide +kernel) ?_
  refine hr_cp (a0 := 0) (b0 := 0) (e := 0) 129 18 8 rfl rfl rfl (by decide +kernel) (Nat.le_of_ble_eq_true rfl) ?_
  refine hw_ald (b := 1) (e := 0) (by decide +kernel) rfl (by decide) ?_
  refine hr_gr (w := 130) (b := 4) (e := 7) 128 rfl (by decide +kernel) ?_
  refine hw_k (c := 0) (b := 0) (e := 1) (by decide +kernel) ?_
  refine hw_ald (b := 0) (e := 0) (by decide +kernel) rfl (by decide) ?_
  refine hr_gr (w := 19) (b := 4) (e := 7) 17 rfl (by decide +kernel) ?_
  refine hw_k (c := 0) (b := 0) (e := 1) (by decide +kernel) ?_
  refine hw_k (c := 8) (b := 1) (e := 2) (by decide +kernel) ?_
  refine hr_cp (a0 := 0) (b0 := 0) (e := 0) 130 19 8 rfl rfl rfl (by decide +kernel) (Nat.le_of_ble_eq_true rfl) ?_
  refine hw_ald (b := 1) (e := 0) (by decide +kernel) rfl (by decide) ?_
  refine hr_gr (w := 131) (b := 4) (e := 8) 128 rfl (by decide +kernel) ?_
  refine hw_k (c := 0) (b := 0) (e := 1) (by decide +kernel) ?_
  refine hw_ald (b := 0) (e := 0) (by decide +kernel) rfl (by decide) ?_
  refine hr_gr (w := 20) (b := 4) (e := 8) 17 rfl (by decide +kernel) ?_
  refine hw_k (c := 0) (b := 0) (e := 1) (by decide +kernel) ?_
  refine hw_k (c := 6) (b := 1) (e := 2) (by decide +kernel) ?_
  refine hr_cp (a0 := 0) (b0 := 0) (e := 0) 131 20 6 rfl rfl rfl (by decide +kernel) (Nat.le_of_ble_eq_true rfl) ?_
  refine hw_ald (b := 1) (e := 0) (by decide +kernel) rfl (by decide) ?_
  refine hr_gr (w := 132) (b := 4) (e := 9) 128 rfl (by decide +kernel) ?_
  refine hw_k (c := 0) (b := 0) (e := 1) (by decide +kernel) ?_
  refine hw_ald (b := 0) (e := 0) (by decide +kernel) rfl (by decide) ?_
  refine hr_gr (w := 21) (b := 4) (e := 9) 17 rfl (by decide +kernel) ?_
  refine hw_k (c := 0) (b := 0) (e := 1) (by decide +kernel) ?_
  refine hw_k (c := 6) (b := 1) (e := 2) (by decide +kernel) ?_
  refine hr_cp (a0 := 0) (b0 := 0) (e := 0) 132 21 6 rfl rfl rfl (by decide +kernel) (Nat.le_of_ble_eq_true rfl) ?_
  refine hw_ald (b := 1) (e := 0) (by decide +kernel) rfl (by decide) ?_
  refine hr_gr (w := 133) (b := 4) (e := 10) 128 rfl (by decide +kernel) ?_
  refine hw_k (c := 0) (b := 0) (e := 1) (by decide +kernel) ?_
  refine hw_ald (b := 0) (e := 0) (by decide +kernel) rfl (by decide) ?_
  refine hr_gr (w := 22) (b := 4) (e := 10) 17 rfl (by decide +kernel) ?_
  refine hw_k (c := 0) (b := 0) (e := 1) (by decide +kernel) ?_
  refine hw_k (c := 36) (b := 1) (e := 2) (by decide +kernel) ?_
  refine hr_cp (a0 := 0) (b0 := 0) (e := 0) 133 22 36 rfl rfl rfl (by decide +kernel) (Nat.le_of_ble_eq_true rfl) ?_
  refine hw_ald (b := 1) (e := 0) (by decide +kernel) rfl (by decide) ?_
  refine hr_gr (w := 134) (b := 4) (e := 11) 128 rfl (by decide +kernel) ?_
  refine hw_k (c := 0) (b := 0) (e := 1) (by decide +kernel) ?_
  refine hw_ald (b := 0) (e := 0) (by decide +kernel) rfl (by decide) ?_
  refine hr_gr (w := 23) (b := 4) (e := 11) 17 rfl (by decide +kernel) ?_
  refine hw_k (c := 0) (b := 0) (e := 1) (by decide +kernel) ?_
  refine hw_k (c := 6) (b := 1) (e := 2) (by decide +kernel) ?_
  refine hr_cp (a0 := 0) (b0 := 0) (e := 0) 134 23 6 rfl rfl rfl (by decide +kernel) (Nat.le_of_ble_eq_true rfl) ?_
  refine hw_ald (b := 1) (e := 0) (by decide +kernel) rfl (by decide) ?_
  refine hr_gr (w := 135) (b := 4) (e := 12) 128 rfl (by decide +kernel) ?_
  refine hw_k (c := 0) (b := 0) (e := 1) (by decide +kernel) ?_
  refine hw_ald (b := 0) (e := 0) (by decide +kernel) rfl (by decide) ?_
  refine hr_gr (w := 24) (b := 4) (e := 12) 17 rfl (by decide +kernel) ?_
  refine hw_k (c := 0) (b := 0) (e := 1) (by decide +kernel) ?_
  refine hw_k (c := 6) (b := 1) (e := 2) (by decide +kernel) ?_
  refine hr_cp (a0 := 0) (b0 := 0) (e := 0) 135 24 6 rfl rfl rfl (by decide +kernel) (Nat.le_of_ble_eq_true rfl) ?_
  refine hw_ald (b := 1) (e := 0) (by decide +kernel) rfl (by decide) ?_
  refine hr_gr (w := 136) (b := 4) (e := 13) 128 rfl (by decide +kernel) ?_
  refine hw_k (c := 0) (b := 0) (e := 1) (by decide +kernel) ?_
  refine hw_ald (b := 0) (e := 0) (by decide +kernel) rfl (by decide) ?_
  refine hr_gr (w := 25) (b := 4) (e := 13) 17 rfl (by decide +kernel) ?_
  refine hw_k (c := 0) (b := 0) (e := 1) (by decide +kernel) ?_
  refine hw_k (c := 8) (b := 1) (e := 2) (by decide +kernel) ?_
  refine hr_cp (a0 := 0) (b0 := 0) (e := 0) 136 25 8 rfl rfl rfl (by decide +kernel) (Nat.le_of_ble_eq_true rfl) ?_
  exact hw_vret (a0 := 0) (e := 0) (by decide +kernel) H
theorem sf_66_17_128 {sc : List Int} {d : Nat} {φ : hf_F} {x : Nat} {Q : Option jm_V → hf_F → Nat → Prop}  (hI : Inv φ)  (hQ : ∀ ψ : hf_F, Inv ψ → Fr [17, 18, 19, 20, 21, 22, 23, 24, 25] φ ψ → Q none ψ x) : hw sc d 66 0 [(0, (2, 17)), (1, (2, 128))] [] φ x Q := by
  apply sf_66_17_128_v
  have i1 : Inv (hf_up φ 17 0 (φ 128 0)) := iv_upn hI (by decide) (by decide +kernel)
  have r1 : Fr [17, 18, 19, 20, 21, 22, 23, 24, 25] φ (hf_up φ 17 0 (φ 128 0)) := fr_up (fr_rf) (by decide)
  have f2 := iv_at (a := 128) (k := 1) (lo := (-1 : Int)) (u := 7) hI (by decide +kernel)
  have i3 : Inv (hf_up (hf_up φ 17 0 (φ 128 0)) 17 1 (φ 128 1)) := iv_up (lo := (-1 : Int)) (u := 7) i1 (by decide +kernel) (by omega) (by omega)
  have r3 : Fr [17, 18, 19, 20, 21, 22, 23, 24, 25] φ (hf_up (hf_up φ 17 0 (φ 128 0)) 17 1 (φ 128 1)) := fr_up r1 (by decide)
  have f4 := iv_at (a := 128) (k := 2) (lo := (-1 : Int)) (u := 5) hI (by decide +kernel)
  have i5 : Inv (hf_up (hf_up (hf_up φ 17 0 (φ 128 0)) 17 1 (φ 128 1)) 17 2 (φ 128 2)) := iv_up (lo := (-1 : Int)) (u := 5) i3 (by decide +kernel) (by omega) (by omega)
  have r5 : Fr [17, 18, 19, 20, 21, 22, 23, 24, 25] φ (hf_up (hf_up (hf_up φ 17 0 (φ 128 0)) 17 1 (φ 128 1)) 17 2 (φ 128 2)) := fr_up r3 (by decide)
  have f6 := iv_at (a := 128) (k := 3) (lo := (-2147483648 : Int)) (u := 2147483647) hI (by decide +kernel)
  have i7 : Inv (hf_up (hf_up (hf_up (hf_up φ 17 0 (φ 128 0)) 17 1 (φ 128 1)) 17 2 (φ 128 2)) 17 3 (φ 128 3)) := iv_up (lo := (-2147483648 : Int)) (u := 2147483647) i5 (by decide +kernel) (by omega) (by omega)
  have r7 : Fr [17, 18, 19, 20, 21, 22, 23, 24, 25] φ (hf_up (hf_up (hf_up (hf_up φ 17 0 (φ 128 0)) 17 1 (φ 128 1)) 17 2 (φ 128 2)) 17 3 (φ 128 3)) := fr_up r5 (by decide)
  have i8 : Inv (hf_up (hf_up (hf_up (hf_up (hf_up φ 17 0 (φ 128 0)) 17 1 (φ 128 1)) 17 2 (φ 128 2)) 17 3 (φ 128 3)) 17 4 (φ 128 4)) := iv_upn i7 (by decide) (by decide +kernel)
  have r8 : Fr [17, 18, 19, 20, 21, 22, 23, 24, 25] φ (hf_up (hf_up (hf_up (hf_up (hf_up φ 17 0 (φ 128 0)) 17 1 (φ 128 1)) 17 2 (φ 128 2)) 17 3 (φ 128 3)) 17 4 (φ 128 4)) := fr_up r7 (by decide)
  have i9 : Inv (hf_up (hf_up (hf_up (hf_up (hf_up (hf_up φ 17 0 (φ 128 0)) 17 1 (φ 128 1)) 17 2 (φ 128 2)) 17 3 (φ 128 3)) 17 4 (φ 128 4)) 17 5 (φ 128 5)) := iv_upn i8 (by decide) (by decide +kernel)
  have r9 : Fr [17, 18, 19, 20, 21, 22, 23, 24, 25] φ (hf_up (hf_up (hf_up (hf_up (hf_up (hf_up φ 17 0 (φ 128 0)) 17 1 (φ 128 1)) 17 2 (φ 128 2)) 17 3 (φ 128 3)) 17 4 (φ 128 4)) 17 5 (φ 128 5)) := fr_up r8 (by decide)
  have i10 : Inv (hf_cp (hf_up (hf_up (hf_up (hf_up (hf_up (hf_up φ 17 0 (φ 128 0)) 17 1 (φ 128 1)) 17 2 (φ 128 2)) 17 3 (φ 128 3)) 17 4 (φ 128 4)) 17 5 (φ 128 5)) 129 18 8) := iv_cp i9 (by decide) (by decide +kernel)
  have r10 : Fr [17, 18, 19, 20, 21, 22, 23, 24, 25] φ (hf_cp (hf_up (hf_up (hf_up (hf_up (hf_up (hf_up φ 17 0 (φ 128 0)) 17 1 (φ 128 1)) 17 2 (φ 128 2)) 17 3 (φ 128 3)) 17 4 (φ 128 4)) 17 5 (φ 128 5)) 129 18 8) := fr_cp r9 (by decide)
  have i11 : Inv (hf_cp (hf_cp (hf_up (hf_up (hf_up (hf_up (hf_up (hf_up φ 17 0 (φ 128 0)) 17 1 (φ 128 1)) 17 2 (φ 128 2)) 17 3 (φ 128 3)) 17 4 (φ 128 4)) 17 5 (φ 128 5)) 129 18 8) 130 19 8) := iv_cp i10 (by decide) (by decide +kernel)
  have r11 : Fr [17, 18, 19, 20, 21, 22, 23, 24, 25] φ (hf_cp (hf_cp (hf_up (hf_up (hf_up (hf_up (hf_up (hf_up φ 17 0 (φ 128 0)) 17 1 (φ 128 1)) 17 2 (φ 128 2)) 17 3 (φ 128 3)) 17 4 (φ 128 4)) 17 5 (φ 128 5)) 129 18 8) 130 19 8) := fr_cp r10 (by decide)
  have i12 : Inv (hf_cp (hf_cp (hf_cp (hf_up (hf_up (hf_up (hf_up (hf_up (hf_up φ 17 0 (φ 128 0)) 17 1 (φ 128 1)) 17 2 (φ 128 2)) 17 3 (φ 128 3)) 17 4 (φ 128 4)) 17 5 (φ 128 5)) 129 18 8) 130 19 8) 131 20 6) := iv_cp i11 (by decide) (by decide +kernel)
  have r12 : Fr [17, 18, 19, 20, 21, 22, 23, 24, 25] φ (hf_cp (hf_cp (hf_cp (hf_up (hf_up (hf_up (hf_up (hf_up (hf_up φ 17 0 (φ 128 0)) 17 1 (φ 128 1)) 17 2 (φ 128 2)) 17 3 (φ 128 3)) 17 4 (φ 128 4)) 17 5 (φ 128 5)) 129 18 8) 130 19 8) 131 20 6) := fr_cp r11 (by decide)
  have i13 : Inv (hf_cp (hf_cp (hf_cp (hf_cp (hf_up (hf_up (hf_up (hf_up (hf_up (hf_up φ 17 0 (φ 128 0)) 17 1 (φ 128 1)) 17 2 (φ 128 2)) 17 3 (φ 128 3)) 17 4 (φ 128 4)) 17 5 (φ 128 5)) 129 18 8) 130 19 8) 131 20 6) 132 21 6) := iv_cp i12 (by decide) (by decide +kernel)
  have r13 : Fr [17, 18, 19, 20, 21, 22, 23, 24, 25] φ (hf_cp (hf_cp (hf_cp (hf_cp (hf_up (hf_up (hf_up (hf_up (hf_up (hf_up φ 17 0 (φ 128 0)) 17 1 (φ 128 1)) 17 2 (φ 128 2)) 17 3 (φ 128 3)) 17 4 (φ 128 4)) 17 5 (φ 128 5)) 129 18 8) 130 19 8) 131 20 6) 132 21 6) := fr_cp r12 (by decide)
  have i14 : Inv (hf_cp (hf_cp (hf_cp (hf_cp (hf_cp (hf_up (hf_up (hf_up (hf_up (hf_up (hf_up φ 17 0 (φ 128 0)) 17 1 (φ 128 1)) 17 2 (φ 128 2)) 17 3 (φ 128 3)) 17 4 (φ 128 4)) 17 5 (φ 128 5)) 129 18 8) 130 19 8) 131 20 6) 132 21 6) 133 22 36) := iv_cp i13 (by decide) (by decide +kernel)
  have r14 : Fr [17, 18, 19, 20, 21, 22, 23, 24, 25] φ (hf_cp (hf_cp (hf_cp (hf_cp (hf_cp (hf_up (hf_up (hf_up (hf_up (hf_up (hf_up φ 17 0 (φ 128 0)) 17 1 (φ 128 1)) 17 2 (φ 128 2)) 17 3 (φ 128 3)) 17 4 (φ 128 4)) 17 5 (φ 128 5)) 129 18 8) 130 19 8) 131 20 6) 132 21 6) 133 22 36) := fr_cp r13 (by decide)
  have i15 : Inv (hf_cp (hf_cp (hf_cp (hf_cp (hf_cp (hf_cp (hf_up (hf_up (hf_up (hf_up (hf_up (hf_up φ 17 0 (φ 128 0)) 17 1 (φ 128 1)) 17 2 (φ 128 2)) 17 3 (φ 128 3)) 17 4 (φ 128 4)) 17 5 (φ 128 5)) 129 18 8) 130 19 8) 131 20 6) 132 21 6) 133 22 36) 134 23 6) := iv_cp i14 (by decide) (by decide +kernel)
  have r15 : Fr [17, 18, 19, 20, 21, 22, 23, 24, 25] φ (hf_cp (hf_cp (hf_cp (hf_cp (hf_cp (hf_cp (hf_up (hf_up (hf_up (hf_up (hf_up (hf_up φ 17 0 (φ 128 0)) 17 1 (φ 128 1)) 17 2 (φ 128 2)) 17 3 (φ 128 3)) 17 4 (φ 128 4)) 17 5 (φ 128 5)) 129 18 8) 130 19 8) 131 20 6) 132 21 6) 133 22 36) 134 23 6) := fr_cp r14 (by decide)
  have i16 : Inv (hf_cp (hf_cp (hf_cp (hf_cp (hf_cp (hf_cp (hf_cp (hf_up (hf_up (hf_up (hf_up (hf_up (hf_up φ 17 0 (φ 128 0)) 17 1 (φ 128 1)) 17 2 (φ 128 2)) 17 3 (φ 128 3)) 17 4 (φ 128 4)) 17 5 (φ 128 5)) 129 18 8) 130 19 8) 131 20 6) 132 21 6) 133 22 36) 134 23 6) 135 24 6) := iv_cp i15 (by decide) (by decide +kernel)
  have r16 : Fr [17, 18, 19, 20, 21, 22, 23, 24, 25] φ (hf_cp (hf_cp (hf_cp (hf_cp (hf_cp (hf_cp (hf_cp (hf_up (hf_up (hf_up (hf_up (hf_up (hf_up φ 17 0 (φ 128 0)) 17 1 (φ 128 1)) 17 2 (φ 128 2)) 17 3 (φ 128 3)) 17 4 (φ 128 4)) 17 5 (φ 128 5)) 129 18 8) 130 19 8) 131 20 6) 132 21 6) 133 22 36) 134 23 6) 135 24 6) := fr_cp r15 (by decide)
  have i17 : Inv (hf_cp (hf_cp (hf_cp (hf_cp (hf_cp (hf_cp (hf_cp (hf_cp (hf_up (hf_up (hf_up (hf_up (hf_up (hf_up φ 17 0 (φ 128 0)) 17 1 (φ 128 1)) 17 2 (φ 128 2)) 17 3 (φ 128 3)) 17 4 (φ 128 4)) 17 5 (φ 128 5)) 129 18 8) 130 19 8) 131 20 6) 132 21 6) 133 22 36) 134 23 6) 135 24 6) 136 25 8) := iv_cp i16 (by decide) (by decide +kernel)
  have r17 : Fr [17, 18, 19, 20, 21, 22, 23, 24, 25] φ (hf_cp (hf_cp (hf_cp (hf_cp (hf_cp (hf_cp (hf_cp (hf_cp (hf_up (hf_up (hf_up (hf_up (hf_up (hf_up φ 17 0 (φ 128 0)) 17 1 (φ 128 1)) 17 2 (φ 128 2)) 17 3 (φ 128 3)) 17 4 (φ 128 4)) 17 5 (φ 128 5)) 129 18 8) 130 19 8) 131 20 6) 132 21 6) 133 22 36) 134 23 6) 135 24 6) 136 25 8) := fr_cp r16 (by decide)
  exact hQ (hf_cp (hf_cp (hf_cp (hf_cp (hf_cp (hf_cp (hf_cp (hf_cp (hf_up (hf_up (hf_up (hf_up (hf_up (hf_up φ 17 0 (φ 128 0)) 17 1 (φ 128 1)) 17 2 (φ 128 2)) 17 3 (φ 128 3)) 17 4 (φ 128 4)) 17 5 (φ 128 5)) 129 18 8) 130 19 8) 131 20 6) 132 21 6) 133 22 36) 134 23 6) 135 24 6) 136 25 8) i17 r17
theorem sf_66_17_137_v {sc : List Int} {d : Nat} {φ : hf_F} {x : Nat} {Q : Option jm_V → hf_F → Nat → Prop} 
    (H : Q none (hf_cp (hf_cp (hf_cp (hf_cp (hf_cp (hf_cp (hf_cp (hf_cp (hf_up (hf_up (hf_up (hf_up (hf_up (hf_up φ 17 0 (φ 137 0)) 17 1 (φ 137 1)) 17 2 (φ 137 2)) 17 3 (φ 137 3)) 17 4 (φ 137 4)) 17 5 (φ 137 5)) 138 18 8) 139 19 8) 140 20 6) 141 21 6) 142 22 36) 143 23 6) 144 24 6) 145 25 8) x) :
    hw sc d 66 0 [(0, (2, 17)), (1, (2, 137))] [] φ x Q := by
  refine hw_ald (b := 0) (e := 0) (by decide +kernel) rfl (by decide) ?_
  refine hw_ald (b := 1) (e := 0) (by decide +kernel) rfl (by decide) ?_
  refine hr_gi (w := φ 137 0) (b := 4) (e := 0) 137 rfl (by decide +kernel) rfl ?_
  refine hr_pi (b := 4) (e := 0) 17 rfl (by decide +kernel) ?_
  refine hw_ald (b := 0) (e := 0) (by decide +kernel) rfl (by decide) ?_
  refine hw_ald (b := 1) (e := 0) (by decide +kernel) rfl (by decide) ?_
  refine hr_gi (w := φ 137 1) (b := 4) (e := 1) 137 rfl (by decide +kernel) (hf_up_ne (fun q => absurd q.1 (by decide))) ?_
  refine hr_pi (b := 4) (e := 1) 17 rfl (by decide +kernel) ?_
  refine hw_ald (b := 0) (e := 0) (by decide +kernel) rfl (by decide) ?_
  refine hw_ald (b := 1) (e := 0) (by decide +kernel) rfl (by decide) ?_
  refine hr_gi (w := φ 137 2) (b := 4) (e := 2) 137 rfl (by decide +kernel) ((hf_up_ne (fun q => absurd q.1 (by decide))).trans (hf_up_ne (fun q => absurd q.1 (by decide)))) ?_
  refine hr_pi (b := 4) (e := 2) 17 rfl (by decide +kernel) ?_
  refine hw_ald (b := 0) (e := 0) (by decide +kernel) rfl (by decide) ?_
  refine hw_ald (b := 1) (e := 0) (by decide +kernel) rfl (by decide) ?_
  refine hr_gi (w := φ 137 3) (b := 4) (e := 3) 137 rfl (by decide +kernel) ((hf_up_ne (fun q => absurd q.1 (by decide))).trans ((hf_up_ne (fun q => absurd q.1 (by decide))).trans (hf_up_ne (fun q => absurd q.1 (by decide))))) ?_
  refine hr_pi (b := 4) (e := 3) 17 rfl (by decide +kernel) ?_
  refine hw_ald (b := 0) (e := 0) (by decide +kernel) rfl (by decide) ?_
  refine hw_ald (b := 1) (e := 0) (by decide +kernel) rfl (by decide) ?_
  refine hr_gi (w := φ 137 4) (b := 4) (e := 4) 137 rfl (by decide +kernel) ((hf_up_ne (fun q => absurd q.1 (by decide))).trans ((hf_up_ne (fun q => absurd q.1 (by decide))).trans ((hf_up_ne (fun q => absurd q.1 (by decide))).trans (hf_up_ne (fun q => absurd q.1 (by decide)))))) ?_
  refine hr_pi (b := 4) (e := 4) 17 rfl (by decide +kernel) ?_
  refine hw_ald (b := 0) (e := 0) (by decide +kernel) rfl (by decide) ?_
  refine hw_ald (b := 1) (e := 0) (by decide +kernel) rfl (by decide) ?_
  refine hr_gi (w := φ 137 5) (b := 4) (e := 5) 137 rfl (by decide +kernel) ((hf_up_ne (fun q => absurd q.1 (by decide))).trans ((hf_up_ne (fun q => absurd q.1 (by decide))).trans ((hf_up_ne (fun q => absurd q.1 (by decide))).trans ((hf_up_ne (fun q => absurd q.1 (by decide))).trans (hf_up_ne (fun q => absurd q.1 (by decide))))))) ?_
  refine hr_pi (b := 4) (e := 5) 17 rfl (by decide +kernel) ?_
  refine hw_ald (b := 1) (e := 0) (by decide +kernel) rfl (by decide) ?_
  refine hr_gr (w := 138) (b := 4) (e := 6) 137 rfl (by decide +kernel) ?_
  refine hw_k (c := 0) (b := 0) (e := 1) (by decide +kernel) ?_
  refine hw_ald (b := 0) (e := 0) (by decide +kernel) rfl (by decide) ?_
  refine hr_gr (w := 18) (b := 4) (e := 6) 17 rfl (by decide +kernel) ?_
  refine hw_k (c := 0) (b := 0) (e := 1) (by decide +kernel) ?_
  refine hw_k (c := 8) (b := 1) (e := 2) (by decide +kernel) ?_
  refine hr_cp (a0 := 0) (b0 := 0) (e := 0) 138 18 8 rfl rfl rfl (by decide +kernel) (Nat.le_of_ble_eq_true rfl) ?_
  refine hw_ald (b := 1) (e := 0) (by decide +kernel) rfl (by decide) ?_
  refine hr_gr (w := 139) (b := 4) (e := 7) 137 rfl (by decide +kernel) ?_
  refine hw_k (c := 0) (b := 0) (e := 1) (by decide +kernel) ?_
  refine hw_ald (b := 0) (e := 0) (by decide +kernel) rfl (by decide) ?_
  refine hr_gr (w := 19) (b := 4) (e := 7) 17 rfl (by decide +kernel) ?_
  refine hw_k (c := 0) (b := 0) (e := 1) (by decide +kernel) ?_
  refine hw_k (c := 8) (b := 1) (e := 2) (by decide +kernel) ?_
  refine hr_cp (a0 := 0) (b0 := 0) (e := 0) 139 19 8 rfl rfl rfl (by decide +kernel) (Nat.le_of_ble_eq_true rfl) ?_
  refine hw_ald (b := 1) (e := 0) (by decide +kernel) rfl (by decide) ?_
  refine hr_gr (w := 140) (b := 4) (e := 8) 137 rfl (by decide +kernel) ?_
  refine hw_k (c := 0) (b := 0) (e := 1) (by decide +kernel) ?_
  refine hw_ald (b := 0) (e := 0) (by decide +kernel) rfl (by decide) ?_
  refine hr_gr (w := 20) (b := 4) (e := 8) 17 rfl (by decide +kernel) ?_
  refine hw_k (c := 0) (b := 0) (e := 1) (by decide +kernel) ?_
  refine hw_k (c := 6) (b := 1) (e := 2) (by decide +kernel) ?_
  refine hr_cp (a0 := 0) (b0 := 0) (e := 0) 140 20 6 rfl rfl rfl (by decide +kernel) (Nat.le_of_ble_eq_true rfl) ?_
  refine hw_ald (b := 1) (e := 0) (by decide +kernel) rfl (by decide) ?_
  refine hr_gr (w := 141) (b := 4) (e := 9) 137 rfl (by decide +kernel) ?_
  refine hw_k (c := 0) (b := 0) (e := 1) (by decide +kernel) ?_
  refine hw_ald (b := 0) (e := 0) (by decide +kernel) rfl (by decide) ?_
  refine hr_gr (w := 21) (b := 4) (e := 9) 17 rfl (by decide +kernel) ?_
  refine hw_k (c := 0) (b := 0) (e := 1) (by decide +kernel) ?_
  refine hw_k (c := 6) (b := 1) (e := 2) (by decide +kernel) ?_
  refine hr_cp (a0 := 0) (b0 := 0) (e := 0) 141 21 6 rfl rfl rfl (by decide +kernel) (Nat.le_of_ble_eq_true rfl) ?_
  refine hw_ald (b := 1) (e := 0) (by decide +kernel) rfl (by decide) ?_
  refine hr_gr (w := 142) (b := 4) (e := 10) 137 rfl (by decide +kernel) ?_
  refine hw_k (c := 0) (b := 0) (e := 1) (by decide +kernel) ?_
  refine hw_ald (b := 0) (e := 0) (by decide +kernel) rfl (by decide) ?_
  refine hr_gr (w := 22) (b := 4) (e := 10) 17 rfl (by decide +kernel) ?_
  refine hw_k (c := 0) (b := 0) (e := 1) (by decide +kernel) ?_
  refine hw_k (c := 36) (b := 1) (e := 2) (by decide +kernel) ?_
  refine hr_cp (a0 := 0) (b0 := 0) (e := 0) 142 22 36 rfl rfl rfl (by decide +kernel) (Nat.le_of_ble_eq_true rfl) ?_
  refine hw_ald (b := 1) (e := 0) (by decide +kernel) rfl (by decide) ?_
  refine hr_gr (w := 143) (b := 4) (e := 11) 137 rfl (by decide +kernel) ?_
  refine hw_k (c := 0) (b := 0) (e := 1) (by decide +kernel) ?_
  refine hw_ald (b := 0) (e := 0) (by decide +kernel) rfl (by decide) ?_
  refine hr_gr (w := 23) (b := 4) (e := 11) 17 rfl (by decide +kernel) ?_
  refine hw_k (c := 0) (b := 0) (e := 1) (by decide +kernel) ?_
  refine hw_k (c := 6) (b := 1) (e := 2) (by decide +kernel) ?_
  refine hr_cp (a0 := 0) (b0 := 0) (e := 0) 143 23 6 rfl rfl rfl (by decide +kernel) (Nat.le_of_ble_eq_true rfl) ?_
  refine hw_ald (b := 1) (e := 0) (by decide +kernel) rfl (by decide) ?_
  refine hr_gr (w := 144) (b := 4) (e := 12) 137 rfl (by decide +kernel) ?_
  refine hw_k (c := 0) (b := 0) (e := 1) (by decide +kernel) ?_
  refine hw_ald (b := 0) (e := 0) (by decide +kernel) rfl (by decide) ?_
  refine hr_gr (w := 24) (b := 4) (e := 12) 17 rfl (by decide +kernel) ?_
  refine hw_k (c := 0) (b := 0) (e := 1) (by decide +kernel) ?_
  refine hw_k (c := 6) (b := 1) (e := 2) (by decide +kernel) ?_
  refine hr_cp (a0 := 0) (b0 := 0) (e := 0) 144 24 6 rfl rfl rfl (by decide +kernel) (Nat.le_of_ble_eq_true rfl) ?_
  refine hw_ald (b := 1) (e := 0) (by decide +kernel) rfl (by decide) ?_
  refine hr_gr (w := 145) (b := 4) (e := 13) 137 rfl (by decide +kernel) ?_
  refine hw_k (c := 0) (b := 0) (e := 1) (by decide +kernel) ?_
  refine hw_ald (b := 0) (e := 0) (by decide +kernel) rfl (by decide) ?_
  refine hr_gr (w := 25) (b := 4) (e := 13) 17 rfl (by decide +kernel) ?_
  refine hw_k (c := 0) (b := 0) (e := 1) (by decide +kernel) ?_
  refine hw_k (c := 8) (b := 1) (e := 2) (by decide +kernel) ?_
  refine hr_cp (a0 := 0) (b0 := 0) (e := 0) 145 25 8 rfl rfl rfl (by decide +kernel) (Nat.le_of_ble_eq_true rfl) ?_
  exact hw_vret (a0 := 0) (e := 0) (by decide +kernel) H
theorem sf_66_17_137 {sc : List Int} {d : Nat} {φ : hf_F} {x : Nat} {Q : Option jm_V → hf_F → Nat → Prop}  (hI : Inv φ)  (hQ : ∀ ψ : hf_F, Inv ψ → Fr [17, 18, 19, 20, 21, 22, 23, 24, 25] φ ψ → Q none ψ x) : hw sc d 66 0 [(0, (2, 17)), (1, (2, 137))] [] φ x Q := by
  apply sf_66_17_137_v
  have i1 : Inv (hf_up φ 17 0 (φ 137 0)) := iv_upn hI (by decide) (by decide +kernel)
  have r1 : Fr [17, 18, 19, 20, 21, 22, 23, 24, 25] φ (hf_up φ 17 0 (φ 137 0)) := fr_up (fr_rf) (by decide)
  have f2 := iv_at (a := 137) (k := 1) (lo := (-1 : Int)) (u := 7) hI (by decide +kernel)
  have i3 : Inv (hf_up (hf_up φ 17 0 (φ 137 0)) 17 1 (φ 137 1)) := iv_up (lo := (-1 : Int)) (u := 7) i1 (by decide +kernel) (by omega) (by omega)
  have r3 : Fr [17, 18, 19, 20, 21, 22, 23, 24, 25] φ (hf_up (hf_up φ 17 0 (φ 137 0)) 17 1 (φ 137 1)) := fr_up r1 (by decide)
  have f4 := iv_at (a := 137) (k := 2) (lo := (-1 : Int)) (u := 5) hI (by decide +kernel)
  have i5 : Inv (hf_up (hf_up (hf_up φ 17 0 (φ 137 0)) 17 1 (φ 137 1)) 17 2 (φ 137 2)) := iv_up (lo := (-1 : Int)) (u := 5) i3 (by decide +kernel) (by omega) (by omega)
  have r5 : Fr [17, 18, 19, 20, 21, 22, 23, 24, 25] φ (hf_up (hf_up (hf_up φ 17 0 (φ 137 0)) 17 1 (φ 137 1)) 17 2 (φ 137 2)) := fr_up r3 (by decide)
  have f6 := iv_at (a := 137) (k := 3) (lo := (-2147483648 : Int)) (u := 2147483647) hI (by decide +kernel)
  have i7 : Inv (hf_up (hf_up (hf_up (hf_up φ 17 0 (φ 137 0)) 17 1 (φ 137 1)) 17 2 (φ 137 2)) 17 3 (φ 137 3)) := iv_up (lo := (-2147483648 : Int)) (u := 2147483647) i5 (by decide +kernel) (by omega) (by omega)
  have r7 : Fr [17, 18, 19, 20, 21, 22, 23, 24, 25] φ (hf_up (hf_up (hf_up (hf_up φ 17 0 (φ 137 0)) 17 1 (φ 137 1)) 17 2 (φ 137 2)) 17 3 (φ 137 3)) := fr_up r5 (by decide)
  have i8 : Inv (hf_up (hf_up (hf_up (hf_up (hf_up φ 17 0 (φ 137 0)) 17 1 (φ 137 1)) 17 2 (φ 137 2)) 17 3 (φ 137 3)) 17 4 (φ 137 4)) := iv_upn i7 (by decide) (by decide +kernel)
  have r8 : Fr [17, 18, 19, 20, 21, 22, 23, 24, 25] φ (hf_up (hf_up (hf_up (hf_up (hf_up φ 17 0 (φ 137 0)) 17 1 (φ 137 1)) 17 2 (φ 137 2)) 17 3 (φ 137 3)) 17 4 (φ 137 4)) := fr_up r7 (by decide)
  have i9 : Inv (hf_up (hf_up (hf_up (hf_up (hf_up (hf_up φ 17 0 (φ 137 0)) 17 1 (φ 137 1)) 17 2 (φ 137 2)) 17 3 (φ 137 3)) 17 4 (φ 137 4)) 17 5 (φ 137 5)) := iv_upn i8 (by decide) (by decide +kernel)
  have r9 : Fr [17, 18, 19, 20, 21, 22, 23, 24, 25] φ (hf_up (hf_up (hf_up (hf_up (hf_up (hf_up φ 17 0 (φ 137 0)) 17 1 (φ 137 1)) 17 2 (φ 137 2)) 17 3 (φ 137 3)) 17 4 (φ 137 4)) 17 5 (φ 137 5)) := fr_up r8 (by decide)
  have i10 : Inv (hf_cp (hf_up (hf_up (hf_up (hf_up (hf_up (hf_up φ 17 0 (φ 137 0)) 17 1 (φ 137 1)) 17 2 (φ 137 2)) 17 3 (φ 137 3)) 17 4 (φ 137 4)) 17 5 (φ 137 5)) 138 18 8) := iv_cp i9 (by decide) (by decide +kernel)
  have r10 : Fr [17, 18, 19, 20, 21, 22, 23, 24, 25] φ (hf_cp (hf_up (hf_up (hf_up (hf_up (hf_up (hf_up φ 17 0 (φ 137 0)) 17 1 (φ 137 1)) 17 2 (φ 137 2)) 17 3 (φ 137 3)) 17 4 (φ 137 4)) 17 5 (φ 137 5)) 138 18 8) := fr_cp r9 (by decide)
  have i11 : Inv (hf_cp (hf_cp (hf_up (hf_up (hf_up (hf_up (hf_up (hf_up φ 17 0 (φ 137 0)) 17 1 (φ 137 1)) 17 2 (φ 137 2)) 17 3 (φ 137 3)) 17 4 (φ 137 4)) 17 5 (φ 137 5)) 138 18 8) 139 19 8) := iv_cp i10 (by decide) (by decide +kernel)
  have r11 : Fr [17, 18, 19, 20, 21, 22, 23, 24, 25] φ (hf_cp (hf_cp (hf_up (hf_up (hf_up (hf_up (hf_up (hf_up φ 17 0 (φ 137 0)) 17 1 (φ 137 1)) 17 2 (φ 137 2)) 17 3 (φ 137 3)) 17 4 (φ 137 4)) 17 5 (φ 137 5)) 138 18 8) 139 19 8) := fr_cp r10 (by decide)
  have i12 : Inv (hf_cp (hf_cp (hf_cp (hf_up (hf_up (hf_up (hf_up (hf_up (hf_up φ 17 0 (φ 137 0)) 17 1 (φ 137 1)) 17 2 (φ 137 2)) 17 3 (φ 137 3)) 17 4 (φ 137 4)) 17 5 (φ 137 5)) 138 18 8) 139 19 8) 140 20 6) := iv_cp i11 (by decide) (by decide +kernel)
  have r12 : Fr [17, 18, 19, 20, 21, 22, 23, 24, 25] φ (hf_cp (hf_cp (hf_cp (hf_up (hf_up (hf_up (hf_up (hf_up (hf_up φ 17 0 (φ 137 0)) 17 1 (φ 137 1)) 17 2 (φ 137 2)) 17 3 (φ 137 3)) 17 4 (φ 137 4)) 17 5 (φ 137 5)) 138 18 8) 139 19 8) 140 20 6) := fr_cp r11 (by decide)
  have i13 : Inv (hf_cp (hf_cp (hf_cp (hf_cp (hf_up (hf_up (hf_up (hf_up (hf_up (hf_up φ 17 0 (φ 137 0)) 17 1 (φ 137 1)) 17 2 (φ 137 2)) 17 3 (φ 137 3)) 17 4 (φ 137 4)) 17 5 (φ 137 5)) 138 18 8) 139 19 8) 140 20 6) 141 21 6) := iv_cp i12 (by decide) (by decide +kernel)
  have r13 : Fr [17, 18, 19, 20, 21, 22, 23, 24, 25] φ (hf_cp (hf_cp (hf_cp (hf_cp (hf_up (hf_up (hf_up (hf_up (hf_up (hf_up φ 17 0 (φ 137 0)) 17 1 (φ 137 1)) 17 2 (φ 137 2)) 17 3 (φ 137 3)) 17 4 (φ 137 4)) 17 5 (φ 137 5)) 138 18 8) 139 19 8) 140 20 6) 141 21 6) := fr_cp r12 (by decide)
  have i14 : Inv (hf_cp (hf_cp (hf_cp (hf_cp (hf_cp (hf_up (hf_up (hf_up (hf_up (hf_up (hf_up φ 17 0 (φ 137 0)) 17 1 (φ 137 1)) 17 2 (φ 137 2)) 17 3 (φ 137 3)) 17 4 (φ 137 4)) 17 5 (φ 137 5)) 138 18 8) 139 19 8) 140 20 6) 141 21 6) 142 22 36) := iv_cp i13 (by decide) (by decide +kernel)
  have r14 : Fr [17, 18, 19, 20, 21, 22, 23, 24, 25] φ (hf_cp (hf_cp (hf_cp (hf_cp (hf_cp (hf_up (hf_up (hf_up (hf_up (hf_up (hf_up φ 17 0 (φ 137 0)) 17 1 (φ 137 1)) 17 2 (φ 137 2)) 17 3 (φ 137 3)) 17 4 (φ 137 4)) 17 5 (φ 137 5)) 138 18 8) 139 19 8) 140 20 6) 141 21 6) 142 22 36) := fr_cp r13 (by decide)
  have i15 : Inv (hf_cp (hf_cp (hf_cp (hf_cp (hf_cp (hf_cp (hf_up (hf_up (hf_up (hf_up (hf_up (hf_up φ 17 0 (φ 137 0)) 17 1 (φ 137 1)) 17 2 (φ 137 2)) 17 3 (φ 137 3)) 17 4 (φ 137 4)) 17 5 (φ 137 5)) 138 18 8) 139 19 8) 140 20 6) 141 21 6) 142 22 36) 143 23 6) := iv_cp i14 (by decide) (by decide +kernel)
  have r15 : Fr [17, 18, 19, 20, 21, 22, 23, 24, 25] φ (hf_cp (hf_cp (hf_cp (hf_cp (hf_cp (hf_cp (hf_up (hf_up (hf_up (hf_up (hf_up (hf_up φ 17 0 (φ 137 0)) 17 1 (φ 137 1)) 17 2 (φ 137 2)) 17 3 (φ 137 3)) 17 4 (φ 137 4)) 17 5 (φ 137 5)) 138 18 8) 139 19 8) 140 20 6) 141 21 6) 142 22 36) 143 23 6) := fr_cp r14 (by decide)
  have i16 : Inv (hf_cp (hf_cp (hf_cp (hf_cp (hf_cp (hf_cp (hf_cp (hf_up (hf_up (hf_up (hf_up (hf_up (hf_up φ 17 0 (φ 137 0)) 17 1 (φ 137 1)) 17 2 (φ 137 2)) 17 3 (φ 137 3)) 17 4 (φ 137 4)) 17 5 (φ 137 5)) 138 18 8) 139 19 8) 140 20 6) 141 21 6) 142 22 36) 143 23 6) 144 24 6) := iv_cp i15 (by decide) (by decide +kernel)
  have r16 : Fr [17, 18, 19, 20, 21, 22, 23, 24, 25] φ (hf_cp (hf_cp (hf_cp (hf_cp (hf_cp (hf_cp (hf_cp (hf_up (hf_up (hf_up (hf_up (hf_up (hf_up φ 17 0 (φ 137 0)) 17 1 (φ 137 1)) 17 2 (φ 137 2)) 17 3 (φ 137 3)) 17 4 (φ 137 4)) 17 5 (φ 137 5)) 138 18 8) 139 19 8) 140 20 6) 141 21 6) 142 22 36) 143 23 6) 144 24 6) := fr_cp r15 (by decide)
  have i17 : Inv (hf_cp (hf_cp (hf_cp (hf_cp (hf_cp (hf_cp (hf_cp (hf_cp (hf_up (hf_up (hf_up (hf_up (hf_up (hf_up φ 17 0 (φ 137 0)) 17 1 (φ 137 1)) 17 2 (φ 137 2)) 17 3 (φ 137 3)) 17 4 (φ 137 4)) 17 5 (φ 137 5)) 138 18 8) 139 19 8) 140 20 6) 141 21 6) 142 22 36) 143 23 6) 144 24 6) 145 25 8) := iv_cp i16 (by decide) (by decide +kernel)
  have r17 : Fr [17, 18, 19, 20, 21, 22, 23, 24, 25] φ (hf_cp (hf_cp (hf_cp (hf_cp (hf_cp (hf_cp (hf_cp (hf_cp (hf_up (hf_up (hf_up (hf_up (hf_up (hf_up φ 17 0 (φ 137 0)) 17 1 (φ 137 1)) 17 2 (φ 137 2)) 17 3 (φ 137 3)) 17 4 (φ 137 4)) 17 5 (φ 137 5)) 138 18 8) 139 19 8) 140 20 6) 141 21 6) 142 22 36) 143 23 6) 144 24 6) 145 25 8) := fr_cp r16 (by decide)
  exact hQ (hf_cp (hf_cp (hf_cp (hf_cp (hf_cp (hf_cp (hf_cp (hf_cp (hf_up (hf_up (hf_up (hf_up (hf_up (hf_up φ 17 0 (φ 137 0)) 17 1 (φ 137 1)) 17 2 (φ 137 2)) 17 3 (φ 137 3)) 17 4 (φ 137 4)) 17 5 (φ 137 5)) 138 18 8) 139 19 8) 140 20 6) 141 21 6) 142 22 36) 143 23 6) 144 24 6) 145 25 8) i17 r17
theorem sf_66_17_146_v {sc : List Int} {d : Nat} {φ : hf_F} {x : Nat} {Q : Option jm_V → hf_F → Nat → Prop} 
    (H : Q none (hf_cp (hf_cp (hf_cp (hf_cp (hf_cp (hf_cp (hf_cp (hf_cp (hf_up (hf_up (hf_up (hf_up (hf_up (hf_up φ 17 0 (φ 146 0)) 17 1 (φ 146 1)) 17 2 (φ 146 2)) 17 3 (φ 146 3)) 17 4 (φ 146 4)) 17 5 (φ 146 5)) 147 18 8) 148 19 8) 149 20 6) 150 21 6) 151 22 36) 152 23 6) 153 24 6) 154 25 8) x) :
    hw sc d 66 0 [(0, (2, 17)), (1, (2, 146))] [] φ x Q := by
  refine hw_ald (b := 0) (e := 0) (by decide +kernel) rfl (by decide) ?_
  refine hw_ald (b := 1) (e := 0) (by decide +kernel) rfl (by decide) ?_
  refine hr_gi (w := φ 146 0) (b := 4) (e := 0) 146 rfl (by decide +kernel) rfl ?_
  refine hr_pi (b := 4) (e := 0) 17 rfl (by decide +kernel) ?_
  refine hw_ald (b := 0) (e := 0) (by decide +kernel) rfl (by decide) ?_
  refine hw_ald (b := 1) (e := 0) (by decide +kernel) rfl (by decide) ?_
  refine hr_gi (w := φ 146 1) (b := 4) (e := 1) 146 rfl (by decide +kernel) (hf_up_ne (fun q => absurd q.1 (by decide))) ?_
  refine hr_pi (b := 4) (e := 1) 17 rfl (by decide +kernel) ?_
  refine hw_ald (b := 0) (e := 0) (by decide +kernel) rfl (by decide) ?_
  refine hw_ald (b := 1) (e := 0) (by decide +kernel) rfl (by decide) ?_
  refine hr_gi (w := φ 146 2) (b := 4) (e := 2) 146 rfl (by decide +kernel) ((hf_up_ne (fun q => absurd q.1 (by decide))).trans (hf_up_ne (fun q => absurd q.1 (by decide)))) ?_
  refine hr_pi (b := 4) (e := 2) 17 rfl (by decide +kernel) ?_
  refine hw_ald (b := 0) (e := 0) (by decide +kernel) rfl (by decide) ?_
  refine hw_ald (b := 1) (e := 0) (by decide +kernel) rfl (by decide) ?_
  refine hr_gi (w := φ 146 3) (b := 4) (e := 3) 146 rfl (by decide +kernel) ((hf_up_ne (fun q => absurd q.1 (by decide))).trans ((hf_up_ne (fun q => absurd q.1 (by decide))).trans (hf_up_ne (fun q => absurd q.1 (by decide))))) ?_
  refine hr_pi (b := 4) (e := 3) 17 rfl (by decide +kernel) ?_
  refine hw_ald (b := 0) (e := 0) (by decide +kernel) rfl (by decide) ?_
  refine hw_ald (b := 1) (e := 0) (by decide +kernel) rfl (by decide) ?_
  refine hr_gi (w := φ 146 4) (b := 4) (e := 4) 146 rfl (by decide +kernel) ((hf_up_ne (fun q => absurd q.1 (by decide))).trans ((hf_up_ne (fun q => absurd q.1 (by decide))).trans ((hf_up_ne (fun q => absurd q.1 (by decide))).trans (hf_up_ne (fun q => absurd q.1 (by decide)))))) ?_
  refine hr_pi (b := 4) (e := 4) 17 rfl (by decide +kernel) ?_
  refine hw_ald (b := 0) (e := 0) (by decide +kernel) rfl (by decide) ?_
  refine hw_ald (b := 1) (e := 0) (by decide +kernel) rfl (by decide) ?_
  refine hr_gi (w := φ 146 5) (b := 4) (e := 5) 146 rfl (by decide +kernel) ((hf_up_ne (fun q => absurd q.1 (by decide))).trans ((hf_up_ne (fun q => absurd q.1 (by decide))).trans ((hf_up_ne (fun q => absurd q.1 (by decide))).trans ((hf_up_ne (fun q => absurd q.1 (by decide))).trans (hf_up_ne (fun q => absurd q.1 (by decide))))))) ?_
  refine hr_pi (b := 4) (e := 5) 17 rfl (by decide +kernel) ?_
  refine hw_ald (b := 1) (e := 0) (by decide +kernel) rfl (by decide) ?_
  refine hr_gr (w := 147) (b := 4) (e := 6) 146 rfl (by decide +kernel) ?_
  refine hw_k (c := 0) (b := 0) (e := 1) (by decide +kernel) ?_
  refine hw_ald (b := 0) (e := 0) (by decide +kernel) rfl (by decide) ?_
  refine hr_gr (w := 18) (b := 4) (e := 6) 17 rfl (by decide +kernel) ?_
  refine hw_k (c := 0) (b := 0) (e := 1) (by decide +kernel) ?_
  refine hw_k (c := 8) (b := 1) (e := 2) (by decide +kernel) ?_
  refine hr_cp (a0 := 0) (b0 := 0) (e := 0) 147 18 8 rfl rfl rfl (by decide +kernel) (Nat.le_of_ble_eq_true rfl) ?_
  refine hw_ald (b := 1) (e := 0) (by decide +kernel) rfl (by decide) ?_
  refine hr_gr (w := 148) (b := 4) (e := 7) 146 rfl (by decide +kernel) ?_
  refine hw_k (c := 0) (b := 0) (e := 1) (by decide +kernel) ?_
  refine hw_ald (b := 0) (e := 0) (by decide +kernel) rfl (by decide) ?_
  refine hr_gr (w := 19) (b := 4) (e := 7) 17 rfl (by decide +kernel) ?_
  refine hw_k (c := 0) (b := 0) (e := 1) (by decide +kernel) ?_
  refine hw_k (c := 8) (b := 1) (e := 2) (by decide +kernel) ?_
  refine hr_cp (a0 := 0) (b0 := 0) (e := 0) 148 19 8 rfl rfl rfl (by decide +kernel) (Nat.le_of_ble_eq_true rfl) ?_
  refine hw_ald (b := 1) (e := 0) (by decide +kernel) rfl (by decide) ?_
  refine hr_gr (w := 149) (b := 4) (e := 8) 146 rfl (by decide +kernel) ?_
  refine hw_k (c := 0) (b := 0) (e := 1) (by decide +kernel) ?_
  refine hw_ald (b := 0) (e := 0) (by decide +kernel) rfl (by decide) ?_
  refine hr_gr (w := 20) (b := 4) (e := 8) 17 rfl (by decide +kernel) ?_
  refine hw_k (c := 0) (b := 0) (e := 1) (by decide +kernel) ?_
  refine hw_k (c := 6) (b := 1) (e := 2) (by decide +kernel) ?_
  refine hr_cp (a0 := 0) (b0 := 0) (e := 0) 149 20 6 rfl rfl rfl (by decide +kernel) (Nat.le_of_ble_eq_true rfl) ?_
  refine hw_ald (b := 1) (e := 0) (by decide +kernel) rfl (by decide) ?_
  refine hr_gr (w := 150) (b := 4) (e := 9) 146 rfl (by decide +kernel) ?_
  refine hw_k (c := 0) (b := 0) (e := 1) (by decide +kernel) ?_
  refine hw_ald (b := 0) (e := 0) (by decide +kernel) rfl (by decide) ?_
  refine hr_gr (w := 21) (b := 4) (e := 9) 17 rfl (by decide +kernel) ?_
  refine hw_k (c := 0) (b := 0) (e := 1) (by decide +kernel) ?_
  refine hw_k (c := 6) (b := 1) (e := 2) (by decide +kernel) ?_
  refine hr_cp (a0 := 0) (b0 := 0) (e := 0) 150 21 6 rfl rfl rfl (by decide +kernel) (Nat.le_of_ble_eq_true rfl) ?_
  refine hw_ald (b := 1) (e := 0) (by decide +kernel) rfl (by decide) ?_
  refine hr_gr (w := 151) (b := 4) (e := 10) 146 rfl (by decide +kernel) ?_
  refine hw_k (c := 0) (b := 0) (e := 1) (by decide +kernel) ?_
  refine hw_ald (b := 0) (e := 0) (by decide +kernel) rfl (by decide) ?_
  refine hr_gr (w := 22) (b := 4) (e := 10) 17 rfl (by decide +kernel) ?_
  refine hw_k (c := 0) (b := 0) (e := 1) (by decide +kernel) ?_
  refine hw_k (c := 36) (b := 1) (e := 2) (by decide +kernel) ?_
  refine hr_cp (a0 := 0) (b0 := 0) (e := 0) 151 22 36 rfl rfl rfl (by decide +kernel) (Nat.le_of_ble_eq_true rfl) ?_
  refine hw_ald (b := 1) (e := 0) (by decide +kernel) rfl (by decide) ?_
  refine hr_gr (w := 152) (b := 4) (e := 11) 146 rfl (by decide +kernel) ?_
  refine hw_k (c := 0) (b := 0) (e := 1) (by decide +kernel) ?_
  refine hw_ald (b := 0) (e := 0) (by decide +kernel) rfl (by decide) ?_
  refine hr_gr (w := 23) (b := 4) (e := 11) 17 rfl (by decide +kernel) ?_
  refine hw_k (c := 0) (b := 0) (e := 1) (by decide +kernel) ?_
  refine hw_k (c := 6) (b := 1) (e := 2) (by decide +kernel) ?_
  refine hr_cp (a0 := 0) (b0 := 0) (e := 0) 152 23 6 rfl rfl rfl (by decide +kernel) (Nat.le_of_ble_eq_true rfl) ?_
  refine hw_ald (b := 1) (e := 0) (by decide +kernel) rfl (by decide) ?_
  refine hr_gr (w := 153) (b := 4) (e := 12) 146 rfl (by decide +kernel) ?_
  refine hw_k (c := 0) (b := 0) (e := 1) (by decide +kernel) ?_
  refine hw_ald (b := 0) (e := 0) (by decide +kernel) rfl (by decide) ?_
  refine hr_gr (w := 24) (b := 4) (e := 12) 17 rfl (by decide +kernel) ?_
  refine hw_k (c := 0) (b := 0) (e := 1) (by decide +kernel) ?_
  refine hw_k (c := 6) (b := 1) (e := 2) (by decide +kernel) ?_
  refine hr_cp (a0 := 0) (b0 := 0) (e := 0) 153 24 6 rfl rfl rfl (by decide +kernel) (Nat.le_of_ble_eq_true rfl) ?_
  refine hw_ald (b := 1) (e := 0) (by decide +kernel) rfl (by decide) ?_
  refine hr_gr (w := 154) (b := 4) (e := 13) 146 rfl (by decide +kernel) ?_
  refine hw_k (c := 0) (b := 0) (e := 1) (by decide +kernel) ?_
  refine hw_ald (b := 0) (e := 0) (by decide +kernel) rfl (by decide) ?_
  refine hr_gr (w := 25) (b := 4) (e := 13) 17 rfl (by decide +kernel) ?_
  refine hw_k (c := 0) (b := 0) (e := 1) (by decide +kernel) ?_
  refine hw_k (c := 8) (b := 1) (e := 2) (by decide +kernel) ?_
  refine hr_cp (a0 := 0) (b0 := 0) (e := 0) 154 25 8 rfl rfl rfl (by decide +kernel) (Nat.le_of_ble_eq_true rfl) ?_
  exact hw_vret (a0 := 0) (e := 0) (by decide +kernel) H
theorem sf_66_17_146 {sc : List Int} {d : Nat} {φ : hf_F} {x : Nat} {Q : Option jm_V → hf_F → Nat → Prop}  (hI : Inv φ)  (hQ : ∀ ψ : hf_F, Inv ψ → Fr [17, 18, 19, 20, 21, 22, 23, 24, 25] φ ψ → Q none ψ x) : hw sc d 66 0 [(0, (2, 17)), (1, (2, 146))] [] φ x Q := by
  apply sf_66_17_146_v
  have i1 : Inv (hf_up φ 17 0 (φ 146 0)) := iv_upn hI (by decide) (by decide +kernel)
  have r1 : Fr [17, 18, 19, 20, 21, 22, 23, 24, 25] φ (hf_up φ 17 0 (φ 146 0)) := fr_up (fr_rf) (by decide)
  have f2 := iv_at (a := 146) (k := 1) (lo := (-1 : Int)) (u := 7) hI (by decide +kernel)
  have i3 : Inv (hf_up (hf_up φ 17 0 (φ 146 0)) 17 1 (φ 146 1)) := iv_up (lo := (-1 : Int)) (u := 7) i1 (by decide +kernel) (by omega) (by omega)
  have r3 : Fr [17, 18, 19, 20, 21, 22, 23, 24, 25] φ (hf_up (hf_up φ 17 0 (φ 146 0)) 17 1 (φ 146 1)) := fr_up r1 (by decide)
  have f4 := iv_at (a := 146) (k := 2) (lo := (-1 : Int)) (u := 5) hI (by decide +kernel)
  have i5 : Inv (hf_up (hf_up (hf_up φ 17 0 (φ 146 0)) 17 1 (φ 146 1)) 17 2 (φ 146 2)) := iv_up (lo := (-1 : Int)) (u := 5) i3 (by decide +kernel) (by omega) (by omega)
  have r5 : Fr [17, 18, 19, 20, 21, 22, 23, 24, 25] φ (hf_up (hf_up (hf_up φ 17 0 (φ 146 0)) 17 1 (φ 146 1)) 17 2 (φ 146 2)) := fr_up r3 (by decide)
  have f6 := iv_at (a := 146) (k := 3) (lo := (-2147483648 : Int)) (u := 2147483647) hI (by decide +kernel)
  have i7 : Inv (hf_up (hf_up (hf_up (hf_up φ 17 0 (φ 146 0)) 17 1 (φ 146 1)) 17 2 (φ 146 2)) 17 3 (φ 146 3)) := iv_up (lo := (-2147483648 : Int)) (u := 2147483647) i5 (by decide +kernel) (by omega) (by omega)
  have r7 : Fr [17, 18, 19, 20, 21, 22, 23, 24, 25] φ (hf_up (hf_up (hf_up (hf_up φ 17 0 (φ 146 0)) 17 1 (φ 146 1)) 17 2 (φ 146 2)) 17 3 (φ 146 3)) := fr_up r5 (by decide)
  have i8 : Inv (hf_up (hf_up (hf_up (hf_up (hf_up φ 17 0 (φ 146 0)) 17 1 (φ 146 1)) 17 2 (φ 146 2)) 17 3 (φ 146 3)) 17 4 (φ 146 4)) := iv_upn i7 (by decide) (by decide +kernel)
  have r8 : Fr [17, 18, 19, 20, 21, 22, 23, 24, 25] φ (hf_up (hf_up (hf_up (hf_up (hf_up φ 17 0 (φ 146 0)) 17 1 (φ 146 1)) 17 2 (φ 146 2)) 17 3 (φ 146 3)) 17 4 (φ 146 4)) := fr_up r7 (by decide)
  have i9 : Inv (hf_up (hf_up (hf_up (hf_up (hf_up (hf_up φ 17 0 (φ 146 0)) 17 1 (φ 146 1)) 17 2 (φ 146 2)) 17 3 (φ 146 3)) 17 4 (φ 146 4)) 17 5 (φ 146 5)) := iv_upn i8 (by decide) (by decide +kernel)
  have r9 : Fr [17, 18, 19, 20, 21, 22, 23, 24, 25] φ (hf_up (hf_up (hf_up (hf_up (hf_up (hf_up φ 17 0 (φ 146 0)) 17 1 (φ 146 1)) 17 2 (φ 146 2)) 17 3 (φ 146 3)) 17 4 (φ 146 4)) 17 5 (φ 146 5)) := fr_up r8 (by decide)
  have i10 : Inv (hf_cp (hf_up (hf_up (hf_up (hf_up (hf_up (hf_up φ 17 0 (φ 146 0)) 17 1 (φ 146 1)) 17 2 (φ 146 2)) 17 3 (φ 146 3)) 17 4 (φ 146 4)) 17 5 (φ 146 5)) 147 18 8) := iv_cp i9 (by decide) (by decide +kernel)
  have r10 : Fr [17, 18, 19, 20, 21, 22, 23, 24, 25] φ (hf_cp (hf_up (hf_up (hf_up (hf_up (hf_up (hf_up φ 17 0 (φ 146 0)) 17 1 (φ 146 1)) 17 2 (φ 146 2)) 17 3 (φ 146 3)) 17 4 (φ 146 4)) 17 5 (φ 146 5)) 147 18 8) := fr_cp r9 (by decide)
  have i11 : Inv (hf_cp (hf_cp (hf_up (hf_up (hf_up (hf_up (hf_up (hf_up φ 17 0 (φ 146 0)) 17 1 (φ 146 1)) 17 2 (φ 146 2)) 17 3 (φ 146 3)) 17 4 (φ 146 4)) 17 5 (φ 146 5)) 147 18 8) 148 19 8) := iv_cp i10 (by decide) (by decide +kernel)
  have r11 : Fr [17, 18, 19, 20, 21, 22, 23, 24, 25] φ (hf_cp (hf_cp (hf_up (hf_up (hf_up (hf_up (hf_up (hf_up φ 17 0 (φ 146 0)) 17 1 (φ 146 1)) 17 2 (φ 146 2)) 17 3 (φ 146 3)) 17 4 (φ 146 4)) 17 5 (φ 146 5)) 147 18 8) 148 19 8) := fr_cp r10 (by decide)
  have i12 : Inv (hf_cp (hf_cp (hf_cp (hf_up (hf_up (hf_up (hf_up (hf_up (hf_up φ 17 0 (φ 146 0)) 17 1 (φ 146 1)) 17 2 (φ 146 2)) 17 3 (φ 146 3)) 17 4 (φ 146 4)) 17 5 (φ 146 5)) 147 18 8) 148 19 8) 149 20 6) := iv_cp i11 (by decide) (by decide +kernel)
  have r12 : Fr [17, 18, 19, 20, 21, 22, 23, 24, 25] φ (hf_cp (hf_cp (hf_cp (hf_up (hf_up (hf_up (hf_up (hf_up (hf_up φ 17 0 (φ 146 0)) 17 1 (φ 146 1)) 17 2 (φ 146 2)) 17 3 (φ 146 3)) 17 4 (φ 146 4)) 17 5 (φ 146 5)) 147 18 8) 148 19 8) 149 20 6) := fr_cp r11 (by decide)
  have i13 : Inv (hf_cp (hf_cp (hf_cp (hf_cp (hf_up (hf_up (hf_up (hf_up (hf_up (hf_up φ 17 0 (φ 146 0)) 17 1 (φ 146 1)) 17 2 (φ 146 2)) 17 3 (φ 146 3)) 17 4 (φ 146 4)) 17 5 (φ 146 5)) 147 18 8) 148 19 8) 149 20 6) 150 21 6) := iv_cp i12 (by decide) (by decide +kernel)
  have r13 : Fr [17, 18, 19, 20, 21, 22, 23, 24, 25] φ (hf_cp (hf_cp (hf_cp (hf_cp (hf_up (hf_up (hf_up (hf_up (hf_up (hf_up φ 17 0 (φ 146 0)) 17 1 (φ 146 1)) 17 2 (φ 146 2)) 17 3 (φ 146 3)) 17 4 (φ 146 4)) 17 5 (φ 146 5)) 147 18 8) 148 19 8) 149 20 6) 150 21 6) := fr_cp r12 (by decide)
  have i14 : Inv (hf_cp (hf_cp (hf_cp (hf_cp (hf_cp (hf_up (hf_up (hf_up (hf_up (hf_up (hf_up φ 17 0 (φ 146 0)) 17 1 (φ 146 1)) 17 2 (φ 146 2)) 17 3 (φ 146 3)) 17 4 (φ 146 4)) 17 5 (φ 146 5)) 147 18 8) 148 19 8) 149 20 6) 150 21 6) 151 22 36) := iv_cp i13 (by decide) (by decide +kernel)
  have r14 : Fr [17, 18, 19, 20, 21, 22, 23, 24, 25] φ (hf_cp (hf_cp (hf_cp (hf_cp (hf_cp (hf_up (hf_up (hf_up (hf_up (hf_up (hf_up φ 17 0 (φ 146 0)) 17 1 (φ 146 1)) 17 2 (φ 146 2)) 17 3 (φ 146 3)) 17 4 (φ 146 4)) 17 5 (φ 146 5)) 147 18 8) 148 19 8) 149 20 6) 150 21 6) 151 22 36) := fr_cp r13 (by decide)
  have i15 : Inv (hf_cp (hf_cp (hf_cp (hf_cp (hf_cp (hf_cp (hf_up (hf_up (hf_up (hf_up (hf_up (hf_up φ 17 0 (φ 146 0)) 17 1 (φ 146 1)) 17 2 (φ 146 2)) 17 3 (φ 146 3)) 17 4 (φ 146 4)) 17 5 (φ 146 5)) 147 18 8) 148 19 8) 149 20 6) 150 21 6) 151 22 36) 152 23 6) := iv_cp i14 (by decide) (by decide +kernel)
  have r15 : Fr [17, 18, 19, 20, 21, 22, 23, 24, 25] φ (hf_cp (hf_cp (hf_cp (hf_cp (hf_cp (hf_cp (hf_up (hf_up (hf_up (hf_up (hf_up (hf_up φ 17 0 (φ 146 0)) 17 1 (φ 146 1)) 17 2 (φ 146 2)) 17 3 (φ 146 3)) 17 4 (φ 146 4)) 17 5 (φ 146 5)) 147 18 8) 148 19 8) 149 20 6) 150 21 6) 151 22 36) 152 23 6) := fr_cp r14 (by decide)
  have i16 : Inv (hf_cp (hf_cp (hf_cp (hf_cp (hf_cp (hf_cp (hf_cp (hf_up (hf_up (hf_up (hf_up (hf_up (hf_up φ 17 0 (φ 146 0)) 17 1 (φ 146 1)) 17 2 (φ 146 2)) 17 3 (φ 146 3)) 17 4 (φ 146 4)) 17 5 (φ 146 5)) 147 18 8) 148 19 8) 149 20 6) 150 21 6) 151 22 36) 152 23 6) 153 24 6) := iv_cp i15 (by decide) (by decide +kernel)
  have r16 : Fr [17, 18, 19, 20, 21, 22, 23, 24, 25] φ (hf_cp (hf_cp (hf_cp (hf_cp (hf_cp (hf_cp (hf_cp (hf_up (hf_up (hf_up (hf_up (hf_up (hf_up φ 17 0 (φ 146 0)) 17 1 (φ 146 1)) 17 2 (φ 146 2)) 17 3 (φ 146 3)) 17 4 (φ 146 4)) 17 5 (φ 146 5)) 147 18 8) 148 19 8) 149 20 6) 150 21 6) 151 22 36) 152 23 6) 153 24 6) := fr_cp r15 (by decide)
  have i17 : Inv (hf_cp (hf_cp (hf_cp (hf_cp (hf_cp (hf_cp (hf_cp (hf_cp (hf_up (hf_up (hf_up (hf_up (hf_up (hf_up φ 17 0 (φ 146 0)) 17 1 (φ 146 1)) 17 2 (φ 146 2)) 17 3 (φ 146 3)) 17 4 (φ 146 4)) 17 5 (φ 146 5)) 147 18 8) 148 19 8) 149 20 6) 150 21 6) 151 22 36) 152 23 6) 153 24 6) 154 25 8) := iv_cp i16 (by decide) (by decide +kernel)
  have r17 : Fr [17, 18, 19, 20, 21, 22, 23, 24, 25] φ (hf_cp (hf_cp (hf_cp (hf_cp (hf_cp (hf_cp (hf_cp (hf_cp (hf_up (hf_up (hf_up (hf_up (hf_up (hf_up φ 17 0 (φ 146 0)) 17 1 (φ 146 1)) 17 2 (φ 146 2)) 17 3 (φ 146 3)) 17 4 (φ 146 4)) 17 5 (φ 146 5)) 147 18 8) 148 19 8) 149 20 6) 150 21 6) 151 22 36) 152 23 6) 153 24 6) 154 25 8) := fr_cp r16 (by decide)
  exact hQ (hf_cp (hf_cp (hf_cp (hf_cp (hf_cp (hf_cp (hf_cp (hf_cp (hf_up (hf_up (hf_up (hf_up (hf_up (hf_up φ 17 0 (φ 146 0)) 17 1 (φ 146 1)) 17 2 (φ 146 2)) 17 3 (φ 146 3)) 17 4 (φ 146 4)) 17 5 (φ 146 5)) 147 18 8) 148 19 8) 149 20 6) 150 21 6) 151 22 36) 152 23 6) 153 24 6) 154 25 8) i17 r17
theorem sf_66_17_155_v {sc : List Int} {d : Nat} {φ : hf_F} {x : Nat} {Q : Option jm_V → hf_F → Nat → Prop} 
    (H : Q none (hf_cp (hf_cp (hf_cp (hf_cp (hf_cp (hf_cp (hf_cp (hf_cp (hf_up (hf_up (hf_up (hf_up (hf_up (hf_up φ 17 0 (φ 155 0)) 17 1 (φ 155 1)) 17 2 (φ 155 2)) 17 3 (φ 155 3)) 17 4 (φ 155 4)) 17 5 (φ 155 5)) 156 18 8) 157 19 8) 158 20 6) 159 21 6) 160 22 36) 161 23 6) 162 24 6) 163 25 8) x) :
    hw sc d 66 0 [(0, (2, 17)), (1, (2, 155))] [] φ x Q := by
  refine hw_ald (b := 0) (e := 0) (by decide +kernel) rfl (by decide) ?_
  refine hw_ald (b := 1) (e := 0) (by decide +kernel) rfl (by decide) ?_
  refine hr_gi (w := φ 155 0) (b := 4) (e := 0) 155 rfl (by decide +kernel) rfl ?_
  refine hr_pi (b := 4) (e := 0) 17 rfl (by decide +kernel) ?_
  refine hw_ald (b := 0) (e := 0) (by decide +kernel) rfl (by decide) ?_
  refine hw_ald (b := 1) (e := 0) (by decide +kernel) rfl (by decide) ?_
  refine hr_gi (w := φ 155 1) (b := 4) (e := 1) 155 rfl (by decide +kernel) (hf_up_ne (fun q => absurd q.1 (by decide))) ?_
  refine hr_pi (b := 4) (e := 1) 17 rfl (by decide +kernel) ?_
  refine hw_ald (b := 0) (e := 0) (by decide +kernel) rfl (by decide) ?_
  refine hw_ald (b := 1) (e := 0) (by decide +kernel) rfl (by decide) ?_
  refine hr_gi (w := φ 155 2) (b := 4) (e := 2) 155 rfl (by decide +kernel) ((hf_up_ne (fun q => absurd q.1 (by decide))).trans (hf_up_ne (fun q => absurd q.1 (by decide)))) ?_
  refine hr_pi (b := 4) (e := 2) 17 rfl (by decide +kernel) ?_
  refine hw_ald (b := 0) (e := 0) (by decide +kernel) rfl (by decide) ?_
  refine hw_ald (b := 1) (e := 0) (by decide +kernel) rfl (by decide) ?_
  refine hr_gi (w := φ 155 3) (b := 4) (e := 3) 155 rfl (by decide +kernel) ((hf_up_ne (fun q => absurd q.1 (by decide))).trans ((hf_up_ne (fun q => absurd q.1 (by decide))).trans (hf_up_ne (fun q => absurd q.1 (by decide))))) ?_
  refine hr_pi (b := 4) (e := 3) 17 rfl (by decide +kernel) ?_
  refine hw_ald (b := 0) (e := 0) (by decide +kernel) rfl (by decide) ?_
  refine hw_ald (b := 1) (e := 0) (by decide +kernel) rfl (by decide) ?_
  refine hr_gi (w := φ 155 4) (b := 4) (e := 4) 155 rfl (by decide +kernel) ((hf_up_ne (fun q => absurd q.1 (by decide))).trans ((hf_up_ne (fun q => absurd q.1 (by decide))).trans ((hf_up_ne (fun q => absurd q.1 (by decide))).trans (hf_up_ne (fun q => absurd q.1 (by decide)))))) ?_
  refine hr_pi (b := 4) (e := 4) 17 rfl (by decide +kernel) ?_
  refine hw_ald (b := 0) (e := 0) (by decide +kernel) rfl (by decide) ?_
  refine hw_ald (b := 1) (e := 0) (by decide +kernel) rfl (by decide) ?_
  refine hr_gi (w := φ 155 5) (b := 4) (e := 5) 155 rfl (by decide +kernel) ((hf_up_ne (fun q => absurd q.1 (by decide))).trans ((hf_up_ne (fun q => absurd q.1 (by decide))).trans ((hf_up_ne (fun q => absurd q.1 (by decide))).trans ((hf_up_ne (fun q => absurd q.1 (by decide))).trans (hf_up_ne (fun q => absurd q.1 (by decide))))))) ?_
  refine hr_pi (b := 4) (e := 5) 17 rfl (by decide +kernel) ?_
  refine hw_ald (b := 1) (e := 0) (by decide +kernel) rfl (by decide) ?_
  refine hr_gr (w := 156) (b := 4) (e := 6) 155 rfl (by decide +kernel) ?_
  refine hw_k (c := 0) (b := 0) (e := 1) (by decide +kernel) ?_
  refine hw_ald (b := 0) (e := 0) (by decide +kernel) rfl (by decide) ?_
  refine hr_gr (w := 18) (b := 4) (e := 6) 17 rfl (by decide +kernel) ?_
  refine hw_k (c := 0) (b := 0) (e := 1) (by decide +kernel) ?_
  refine hw_k (c := 8) (b := 1) (e := 2) (by decide +kernel) ?_
  refine hr_cp (a0 := 0) (b0 := 0) (e := 0) 156 18 8 rfl rfl rfl (by decide +kernel) (Nat.le_of_ble_eq_true rfl) ?_
  refine hw_ald (b := 1) (e := 0) (by decide +kernel) rfl (by decide) ?_
  refine hr_gr (w := 157) (b := 4) (e := 7) 155 rfl (by decide +kernel) ?_
  refine hw_k (c := 0) (b := 0) (e := 1) (by decide +kernel) ?_
  refine hw_ald (b := 0) (e := 0) (by decide +kernel) rfl (by decide) ?_
  refine hr_gr (w := 19) (b := 4) (e := 7) 17 rfl (by decide +kernel) ?_
  refine hw_k (c := 0) (b := 0) (e := 1) (by decide +kernel) ?_
  refine hw_k (c := 8) (b := 1) (e := 2) (by decide +kernel) ?_
  refine hr_cp (a0 := 0) (b0 := 0) (e := 0) 157 19 8 rfl rfl rfl (by decide +kernel) (Nat.le_of_ble_eq_true rfl) ?_
  refine hw_ald (b := 1) (e := 0) (by decide +kernel) rfl (by decide) ?_
  refine hr_gr (w := 158) (b := 4) (e := 8) 155 rfl (by decide +kernel) ?_
  refine hw_k (c := 0) (b := 0) (e := 1) (by decide +kernel) ?_
  refine hw_ald (b := 0) (e := 0) (by decide +kernel) rfl (by decide) ?_
  refine hr_gr (w := 20) (b := 4) (e := 8) 17 rfl (by decide +kernel) ?_
  refine hw_k (c := 0) (b := 0) (e := 1) (by decide +kernel) ?_
  refine hw_k (c := 6) (b := 1) (e := 2) (by decide +kernel) ?_
  refine hr_cp (a0 := 0) (b0 := 0) (e := 0) 158 20 6 rfl rfl rfl (by decide +kernel) (Nat.le_of_ble_eq_true rfl) ?_
  refine hw_ald (b := 1) (e := 0) (by decide +kernel) rfl (by decide) ?_
  refine hr_gr (w := 159) (b := 4) (e := 9) 155 rfl (by decide +kernel) ?_
  refine hw_k (c := 0) (b := 0) (e := 1) (by decide +kernel) ?_
  refine hw_ald (b := 0) (e := 0) (by decide +kernel) rfl (by decide) ?_
  refine hr_gr (w := 21) (b := 4) (e := 9) 17 rfl (by decide +kernel) ?_
  refine hw_k (c := 0) (b := 0) (e := 1) (by decide +kernel) ?_
  refine hw_k (c := 6) (b := 1) (e := 2) (by decide +kernel) ?_
  refine hr_cp (a0 := 0) (b0 := 0) (e := 0) 159 21 6 rfl rfl rfl (by decide +kernel) (Nat.le_of_ble_eq_true rfl) ?_
  refine hw_ald (b := 1) (e := 0) (by decide +kernel) rfl (by decide) ?_
  refine hr_gr (w := 160) (b := 4) (e := 10) 155 rfl (by decide +kernel) ?_
  refine hw_k (c := 0) (b := 0) (e := 1) (by decide +kernel) ?_
  refine hw_ald (b := 0) (e := 0) (by decide +kernel) rfl (by decide) ?_
  refine hr_gr (w := 22) (b := 4) (e := 10) 17 rfl (by decide +kernel) ?_
  refine hw_k (c := 0) (b := 0) (e := 1) (by decide +kernel) ?_
  refine hw_k (c := 36) (b := 1) (e := 2) (by decide +kernel) ?_
  refine hr_cp (a0 := 0) (b0 := 0) (e := 0) 160 22 36 rfl rfl rfl (by decide +kernel) (Nat.le_of_ble_eq_true rfl) ?_
  refine hw_ald (b := 1) (e := 0) (by decide +kernel) rfl (by decide) ?_
  refine hr_gr (w := 161) (b := 4) (e := 11) 155 rfl (by decide +kernel) ?_
  refine hw_k (c := 0) (b := 0) (e := 1) (by decide +kernel) ?_
  refine hw_ald (b := 0) (e := 0) (by decide +kernel) rfl (by decide) ?_
  refine hr_gr (w := 23) (b := 4) (e := 11) 17 rfl (by decide +kernel) ?_
  refine hw_k (c := 0) (b := 0) (e := 1) (by decide +kernel) ?_
  refine hw_k (c := 6) (b := 1) (e := 2) (by decide +kernel) ?_
  refine hr_cp (a0 := 0) (b0 := 0) (e := 0) 161 23 6 rfl rfl rfl (by decide +kernel) (Nat.le_of_ble_eq_true rfl) ?_
  refine hw_ald (b := 1) (e := 0) (by decide +kernel) rfl (by decide) ?_
  refine hr_gr (w := 162) (b := 4) (e := 12) 155 rfl (by decide +kernel) ?_
  refine hw_k (c := 0) (b := 0) (e := 1) (by decide +kernel) ?_
  refine hw_ald (b := 0) (e := 0) (by decide +kernel) rfl (by decide) ?_
  refine hr_gr (w := 24) (b := 4) (e := 12) 17 rfl (by decide +kernel) ?_
  refine hw_k (c := 0) (b := 0) (e := 1) (by decide +kernel) ?_
  refine hw_k (c := 6) (b := 1) (e := 2) (by decide +kernel) ?_
  refine hr_cp (a0 := 0) (b0 := 0) (e := 0) 162 24 6 rfl rfl rfl (by decide +kernel) (Nat.le_of_ble_eq_true rfl) ?_
  refine hw_ald (b := 1) (e := 0) (by decide +kernel) rfl (by decide) ?_
  refine hr_gr (w := 163) (b := 4) (e := 13) 155 rfl (by decide +kernel) ?_
  refine hw_k (c := 0) (b := 0) (e := 1) (by decide +kernel) ?_
  refine hw_ald (b := 0) (e := 0) (by decide +kernel) rfl (by decide) ?_
  refine hr_gr (w := 25) (b := 4) (e := 13) 17 rfl (by decide +kernel) ?_
  refine hw_k (c := 0) (b := 0) (e := 1) (by decide +kernel) ?_
  refine hw_k (c := 8) (b := 1) (e := 2) (by decide +kernel) ?_
  refine hr_cp (a0 := 0) (b0 := 0) (e := 0) 163 25 8 rfl rfl rfl (by decide +kernel) (Nat.le_of_ble_eq_true rfl) ?_
  exact hw_vret (a0 := 0) (e := 0) (by decide +kernel) H
theorem sf_66_17_155 {sc : List Int} {d : Nat} {φ : hf_F} {x : Nat} {Q : Option jm_V → hf_F → Nat → Prop}  (hI : Inv φ)  (hQ : ∀ ψ : hf_F, Inv ψ → Fr [17, 18, 19, 20, 21, 22, 23, 24, 25] φ ψ → Q none ψ x) : hw sc d 66 0 [(0, (2, 17)), (1, (2, 155))] [] φ x Q := by
  apply sf_66_17_155_v
  have i1 : Inv (hf_up φ 17 0 (φ 155 0)) := iv_upn hI (by decide) (by decide +kernel)
  have r1 : Fr [17, 18, 19, 20, 21, 22, 23, 24, 25] φ (hf_up φ 17 0 (φ 155 0)) := fr_up (fr_rf) (by decide)
  have f2 := iv_at (a := 155) (k := 1) (lo := (-1 : Int)) (u := 7) hI (by decide +kernel)
  have i3 : Inv (hf_up (hf_up φ 17 0 (φ 155 0)) 17 1 (φ 155 1)) := iv_up (lo := (-1 : Int)) (u := 7) i1 (by decide +kernel) (by omega) (by omega)
  have r3 : Fr [17, 18, 19, 20, 21, 22, 23, 24, 25] φ (hf_up (hf_up φ 17 0 (φ 155 0)) 17 1 (φ 155 1)) := fr_up r1 (by decide)
  have f4 := iv_at (a := 155) (k := 2) (lo := (-1 : Int)) (u := 5) hI (by decide +kernel)
  have i5 : Inv (hf_up (hf_up (hf_up φ 17 0 (φ 155 0)) 17 1 (φ 155 1)) 17 2 (φ 155 2)) := iv_up (lo := (-1 : Int)) (u := 5) i3 (by decide +kernel) (by omega) (by omega)
  have r5 : Fr [17, 18, 19, 20, 21, 22, 23, 24, 25] φ (hf_up (hf_up (hf_up φ 17 0 (φ 155 0)) 17 1 (φ 155 1)) 17 2 (φ 155 2)) := fr_up r3 (by decide)
  have f6 := iv_at (a := 155) (k := 3) (lo := (-2147483648 : Int)) (u := 2147483647) hI (by decide +kernel)
  have i7 : Inv (hf_up (hf_up (hf_up (hf_up φ 17 0 (φ 155 0)) 17 1 (φ 155 1)) 17 2 (φ 155 2)) 17 3 (φ 155 3)) := iv_up (lo := (-2147483648 : Int)) (u := 2147483647) i5 (by decide +kernel) (by omega) (by omega)
  have r7 : Fr [17, 18, 19, 20, 21, 22, 23, 24, 25] φ (hf_up (hf_up (hf_up (hf_up φ 17 0 (φ 155 0)) 17 1 (φ 155 1)) 17 2 (φ 155 2)) 17 3 (φ 155 3)) := fr_up r5 (by decide)
  have i8 : Inv (hf_up (hf_up (hf_up (hf_up (hf_up φ 17 0 (φ 155 0)) 17 1 (φ 155 1)) 17 2 (φ 155 2)) 17 3 (φ 155 3)) 17 4 (φ 155 4)) := iv_upn i7 (by decide) (by decide +kernel)
  have r8 : Fr [17, 18, 19, 20, 21, 22, 23, 24, 25] φ (hf_up (hf_up (hf_up (hf_up (hf_up φ 17 0 (φ 155 0)) 17 1 (φ 155 1)) 17 2 (φ 155 2)) 17 3 (φ 155 3)) 17 4 (φ 155 4)) := fr_up r7 (by decide)
  have i9 : Inv (hf_up (hf_up (hf_up (hf_up (hf_up (hf_up φ 17 0 (φ 155 0)) 17 1 (φ 155 1)) 17 2 (φ 155 2)) 17 3 (φ 155 3)) 17 4 (φ 155 4)) 17 5 (φ 155 5)) := iv_upn i8 (by decide) (by decide +kernel)
  have r9 : Fr [17, 18, 19, 20, 21, 22, 23, 24, 25] φ (hf_up (hf_up (hf_up (hf_up (hf_up (hf_up φ 17 0 (φ 155 0)) 17 1 (φ 155 1)) 17 2 (φ 155 2)) 17 3 (φ 155 3)) 17 4 (φ 155 4)) 17 5 (φ 155 5)) := fr_up r8 (by decide)
  have i10 : Inv (hf_cp (hf_up (hf_up (hf_up (hf_up (hf_up (hf_up φ 17 0 (φ 155 0)) 17 1 (φ 155 1)) 17 2 (φ 155 2)) 17 3 (φ 155 3)) 17 4 (φ 155 4)) 17 5 (φ 155 5)) 156 18 8) := iv_cp i9 (by decide) (by decide +kernel)
  have r10 : Fr [17, 18, 19, 20, 21, 22, 23, 24, 25] φ (hf_cp (hf_up (hf_up (hf_up (hf_up (hf_up (hf_up φ 17 0 (φ 155 0)) 17 1 (φ 155 1)) 17 2 (φ 155 2)) 17 3 (φ 155 3)) 17 4 (φ 155 4)) 17 5 (φ 155 5)) 156 18 8) := fr_cp r9 (by decide)
  have i11 : Inv (hf_cp (hf_cp (hf_up (hf_up (hf_up (hf_up (hf_up (hf_up φ 17 0 (φ 155 0)) 17 1 (φ 155 1)) 17 2 (φ 155 2)) 17 3 (φ 155 3)) 17 4 (φ 155 4)) 17 5 (φ 155 5)) 156 18 8) 157 19 8) := iv_cp i10 (by decide) (by decide +kernel)
  have r11 : Fr [17, 18, 19, 20, 21, 22, 23, 24, 25] φ (hf_cp (hf_cp (hf_up (hf_up (hf_up (hf_up (hf_up (hf_up φ 17 0 (φ 155 0)) 17 1 (φ 155 1)) 17 2 (φ 155 2)) 17 3 (φ 155 3)) 17 4 (φ 155 4)) 17 5 (φ 155 5)) 156 18 8) 157 19 8) := fr_cp r10 (by decide)
  have i12 : Inv (hf_cp (hf_cp (hf_cp (hf_up (hf_up (hf_up (hf_up (hf_up (hf_up φ 17 0 (φ 155 0)) 17 1 (φ 155 1)) 17 2 (φ 155 2)) 17 3 (φ 155 3)) 17 4 (φ 155 4)) 17 5 (φ 155 5)) 156 18 8) 157 19 8) 158 20 6) := iv_cp i11 (by decide) (by decide +kernel)
  have r12 : Fr [17, 18, 19, 20, 21, 22, 23, 24, 25] φ (hf_cp (hf_cp (hf_cp (hf_up (hf_up (hf_up (hf_up (hf_up (hf_up φ 17 0 (φ 155 0)) 17 1 (φ 155 1)) 17 2 (φ 155 2)) 17 3 (φ 155 3)) 17 4 (φ 155 4)) 17 5 (φ 155 5)) 156 18 8) 157 19 8) 158 20 6) := fr_cp r11 (by decide)
  have i13 : Inv (hf_cp (hf_cp (hf_cp (hf_cp (hf_up (hf_up (hf_up (hf_up (hf_up (hf_up φ 17 0 (φ 155 0)) 17 1 (φ 155 1)) 17 2 (φ 155 2)) 17 3 (φ 155 3)) 17 4 (φ 155 4)) 17 5 (φ 155 5)) 156 18 8) 157 19 8) 158 20 6) 159 21 6) := iv_cp i12 (by decide) (by decide +kernel)
  have r13 : Fr [17, 18, 19, 20, 21, 22, 23, 24, 25] φ (hf_cp (hf_cp (hf_cp (hf_cp (hf_up (hf_up (hf_up (hf_up (hf_up (hf_up φ 17 0 (φ 155 0)) 17 1 (φ 155 1)) 17 2 (φ 155 2)) 17 3 (φ 155 3)) 17 4 (φ 155 4)) 17 5 (φ 155 5)) 156 18 8) 157 19 8) 158 20 6) 159 21 6) := fr_cp r12 (by decide)
  have i14 : Inv (hf_cp (hf_cp (hf_cp (hf_cp (hf_cp (hf_up (hf_up (hf_up (hf_up (hf_up (hf_up φ 17 0 (φ 155 0)) 17 1 (φ 155 1)) 17 2 (φ 155 2)) 17 3 (φ 155 3)) 17 4 (φ 155 4)) 17 5 (φ 155 5)) 156 18 8) 157 19 8) 158 20 6) 159 21 6) 160 22 36) := iv_cp i13 (by decide) (by decide +kernel)
  have r14 : Fr [17, 18, 19, 20, 21, 22, 23, 24, 25] φ (hf_cp (hf_cp (hf_cp (hf_cp (hf_cp (hf_up (hf_up (hf_up (hf_up (hf_up (hf_up φ 17 0 (φ 155 0)) 17 1 (φ 155 1)) 17 2 (φ 155 2)) 17 3 (φ 155 3)) 17 4 (φ 155 4)) 17 5 (φ 155 5)) 156 18 8) 157 19 8) 158 20 6) 159 21 6) 160 22 36) := fr_cp r13 (by decide)
  have i15 : Inv (hf_cp (hf_cp (hf_cp (hf_cp (hf_cp (hf_cp (hf_up (hf_up (hf_up (hf_up (hf_up (hf_up φ 17 0 (φ 155 0)) 17 1 (φ 155 1)) 17 2 (φ 155 2)) 17 3 (φ 155 3)) 17 4 (φ 155 4)) 17 5 (φ 155 5)) 156 18 8) 157 19 8) 158 20 6) 159 21 6) 160 22 36) 161 23 6) := iv_cp i14 (by decide) (by decide +kernel)
  have r15 : Fr [17, 18, 19, 20, 21, 22, 23, 24, 25] φ (hf_cp (hf_cp (hf_cp (hf_cp (hf_cp (hf_cp (hf_up (hf_up (hf_up (hf_up (hf_up (hf_up φ 17 0 (φ 155 0)) 17 1 (φ 155 1)) 17 2 (φ 155 2)) 17 3 (φ 155 3)) 17 4 (φ 155 4)) 17 5 (φ 155 5)) 156 18 8) 157 19 8) 158 20 6) 159 21 6) 160 22 36) 161 23 6) := fr_cp r14 (by decide)
  have i16 : Inv (hf_cp (hf_cp (hf_cp (hf_cp (hf_cp (hf_cp (hf_cp (hf_up (hf_up (hf_up (hf_up (hf_up (hf_up φ 17 0 (φ 155 0)) 17 1 (φ 155 1)) 17 2 (φ 155 2)) 17 3 (φ 155 3)) 17 4 (φ 155 4)) 17 5 (φ 155 5)) 156 18 8) 157 19 8) 158 20 6) 159 21 6) 160 22 36) 161 23 6) 162 24 6) := iv_cp i15 (by decide) (by decide +kernel)
  have r16 : Fr [17, 18, 19, 20, 21, 22, 23, 24, 25] φ (hf_cp (hf_cp (hf_cp (hf_cp (hf_cp (hf_cp (hf_cp (hf_up (hf_up (hf_up (hf_up (hf_up (hf_up φ 17 0 (φ 155 0)) 17 1 (φ 155 1)) 17 2 (φ 155 2)) 17 3 (φ 155 3)) 17 4 (φ 155 4)) 17 5 (φ 155 5)) 156 18 8) 157 19 8) 158 20 6) 159 21 6) 160 22 36) 161 23 6) 162 24 6) := fr_cp r15 (by decide)
  have i17 : Inv (hf_cp (hf_cp (hf_cp (hf_cp (hf_cp (hf_cp (hf_cp (hf_cp (hf_up (hf_up (hf_up (hf_up (hf_up (hf_up φ 17 0 (φ 155 0)) 17 1 (φ 155 1)) 17 2 (φ 155 2)) 17 3 (φ 155 3)) 17 4 (φ 155 4)) 17 5 (φ 155 5)) 156 18 8) 157 19 8) 158 20 6) 159 21 6) 160 22 36) 161 23 6) 162 24 6) 163 25 8) := iv_cp i16 (by decide) (by decide +kernel)
  have r17 : Fr [17, 18, 19, 20, 21, 22, 23, 24, 25] φ (hf_cp (hf_cp (hf_cp (hf_cp (hf_cp (hf_cp (hf_cp (hf_cp (hf_up (hf_up (hf_up (hf_up (hf_up (hf_up φ 17 0 (φ 155 0)) 17 1 (φ 155 1)) 17 2 (φ 155 2)) 17 3 (φ 155 3)) 17 4 (φ 155 4)) 17 5 (φ 155 5)) 156 18 8) 157 19 8) 158 20 6) 159 21 6) 160 22 36) 161 23 6) 162 24 6) 163 25 8) := fr_cp r16 (by decide)
  exact hQ (hf_cp (hf_cp (hf_cp (hf_cp (hf_cp (hf_cp (hf_cp (hf_cp (hf_up (hf_up (hf_up (hf_up (hf_up (hf_up φ 17 0 (φ 155 0)) 17 1 (φ 155 1)) 17 2 (φ 155 2)) 17 3 (φ 155 3)) 17 4 (φ 155 4)) 17 5 (φ 155 5)) 156 18 8) 157 19 8) 158 20 6) 159 21 6) 160 22 36) 161 23 6) 162 24 6) 163 25 8) i17 r17
theorem sf_66_17_164_v {sc : List Int} {d : Nat} {φ : hf_F} {x : Nat} {Q : Option jm_V → hf_F → Nat → Prop} 
    (H : Q none (hf_cp (hf_cp (hf_cp (hf_cp (hf_cp (hf_cp (hf_cp (hf_cp (hf_up (hf_up (hf_up (hf_up (hf_up (hf_up φ 17 0 (φ 164 0)) 17 1 (φ 164 1)) 17 2 (φ 164 2)) 17 3 (φ 164 3)) 17 4 (φ 164 4)) 17 5 (φ 164 5)) 165 18 8) 166 19 8) 167 20 6) 168 21 6) 169 22 36) 170 23 6) 171 24 6) 172 25 8) x) :
    hw sc d 66 0 [(0, (2, 17)), (1, (2, 164))] [] φ x Q := by
  refine hw_ald (b := 0) (e := 0) (by decide +kernel) rfl (by decide) ?_
  refine hw_ald (b := 1) (e := 0) (by decide +kernel) rfl (by decide) ?_
  refine hr_gi (w := φ 164 0) (b := 4) (e := 0) 164 rfl (by decide +kernel) rfl ?_
  refine hr_pi (b := 4) (e := 0) 17 rfl (by decide +kernel) ?_
  refine hw_ald (b := 0) (e := 0) (by decide +kernel) rfl (by decide) ?_
  refine hw_ald (b := 1) (e := 0) (by decide +kernel) rfl (by decide) ?_
  refine hr_gi (w := φ 164 1) (b := 4) (e := 1) 164 rfl (by decide +kernel) (hf_up_ne (fun q => absurd q.1 (by decide))) ?_
  refine hr_pi (b := 4) (e := 1) 17 rfl (by decide +kernel) ?_
  refine hw_ald (b := 0) (e := 0) (by decide +kernel) rfl (by decide) ?_
  refine hw_ald (b := 1) (e := 0) (by decide +kernel) rfl (by decide) ?_
  refine hr_gi (w := φ 164 2) (b := 4) (e := 2) 164 rfl (by decide +kernel) ((hf_up_ne (fun q => absurd q.1 (by decide))).trans (hf_up_ne (fun q => absurd q.1 (by decide)))) ?_
  refine hr_pi (b := 4) (e := 2) 17 rfl (by decide +kernel) ?_
  refine hw_ald (b := 0) (e := 0) (by decide +kernel) rfl (by decide) ?_
  refine hw_ald (b := 1) (e := 0) (by decide +kernel) rfl (by decide) ?_
  refine hr_gi (w := φ 164 3) (b := 4) (e := 3) 164 rfl (by decide +kernel) ((hf_up_ne (fun q => absurd q.1 (by decide))).trans ((hf_up_ne (fun q => absurd q.1 (by decide))).trans (hf_up_ne (fun q => absurd q.1 (by decide))))) ?_
  refine hr_pi (b := 4) (e := 3) 17 rfl (by decide +kernel) ?_
  refine hw_ald (b := 0) (e := 0) (by decide +kernel) rfl (by decide) ?_
  refine hw_ald (b := 1) (e := 0) (by decide +kernel) rfl (by decide) ?_
  refine hr_gi (w := φ 164 4) (b := 4) (e := 4) 164 rfl (by decide +kernel) ((hf_up_ne (fun q => absurd q.1 (by decide))).trans ((hf_up_ne (fun q => absurd q.1 (by decide))).trans ((hf_up_ne (fun q => absurd q.1 (by decide))).trans (hf_up_ne (fun q => absurd q.1 (by decide)))))) ?_
  refine hr_pi (b := 4) (e := 4) 17 rfl (by decide +kernel) ?_
  refine hw_ald (b := 0) (e := 0) (by decide +kernel) rfl (by decide) ?_
  refine hw_ald (b := 1) (e := 0) (by decide +kernel) rfl (by decide) ?_
  refine hr_gi (w := φ 164 5) (b := 4) (e := 5) 164 rfl (by decide +kernel) ((hf_up_ne (fun q => absurd q.1 (by decide))).trans ((hf_up_ne (fun q => absurd q.1 (by decide))).trans ((hf_up_ne (fun q => absurd q.1 (by decide))).trans ((hf_up_ne (fun q => absurd q.1 (by decide))).trans (hf_up_ne (fun q => absurd q.1 (by decide))))))) ?_
  refine hr_pi (b := 4) (e := 5) 17 rfl (by decide +kernel) ?_
  refine hw_ald (b := 1) (e := 0) (by decide +kernel) rfl (by decide) ?_
  refine hr_gr (w := 165) (b := 4) (e := 6) 164 rfl (by decide +kernel) ?_
  refine hw_k (c := 0) (b := 0) (e := 1) (by decide +kernel) ?_
  refine hw_ald (b := 0) (e := 0) (by decide +kernel) rfl (by decide) ?_
  refine hr_gr (w := 18) (b := 4) (e := 6) 17 rfl (by decide +kernel) ?_
  refine hw_k (c := 0) (b := 0) (e := 1) (by decide +kernel) ?_
  refine hw_k (c := 8) (b := 1) (e := 2) (by decide +kernel) ?_
  refine hr_cp (a0 := 0) (b0 := 0) (e := 0) 165 18 8 rfl rfl rfl (by decide +kernel) (Nat.le_of_ble_eq_true rfl) ?_
  refine hw_ald (b := 1) (e := 0) (by decide +kernel) rfl (by decide) ?_
  refine hr_gr (w := 166) (b := 4) (e := 7) 164 rfl (by decide +kernel) ?_
  refine hw_k (c := 0) (b := 0) (e := 1) (by decide +kernel) ?_
  refine hw_ald (b := 0) (e := 0) (by decide +kernel) rfl (by decide) ?_
  refine hr_gr (w := 19) (b := 4) (e := 7) 17 rfl (by decide +kernel) ?_
  refine hw_k (c := 0) (b := 0) (e := 1) (by decide +kernel) ?_
  refine hw_k (c := 8) (b := 1) (e := 2) (by decide +kernel) ?_
  refine hr_cp (a0 := 0) (b0 := 0) (e := 0) 166 19 8 rfl rfl rfl (by decide +kernel) (Nat.le_of_ble_eq_true rfl) ?_
  refine hw_ald (b := 1) (e := 0) (by decide +kernel) rfl (by decide) ?_
  refine hr_gr (w := 167) (b := 4) (e := 8) 164 rfl (by decide +kernel) ?_
  refine hw_k (c := 0) (b := 0) (e := 1) (by decide +kernel) ?_
  refine hw_ald (b := 0) (e := 0) (by decide +kernel) rfl (by decide) ?_
  refine hr_gr (w := 20) (b := 4) (e := 8) 17 rfl (by decide +kernel) ?_
  refine hw_k (c := 0) (b := 0) (e := 1) (by decide +kernel) ?_
  refine hw_k (c := 6) (b := 1) (e := 2) (by decide +kernel) ?_
  refine hr_cp (a0 := 0) (b0 := 0) (e := 0) 167 20 6 rfl rfl rfl (by decide +kernel) (Nat.le_of_ble_eq_true rfl) ?_
  refine hw_ald (b := 1) (e := 0) (by decide +kernel) rfl (by decide) ?_
  refine hr_gr (w := 168) (b := 4) (e := 9) 164 rfl (by decide +kernel) ?_
  refine hw_k (c := 0) (b := 0) (e := 1) (by decide +kernel) ?_
  refine hw_ald (b := 0) (e := 0) (by decide +kernel) rfl (by decide) ?_
  refine hr_gr (w := 21) (b := 4) (e := 9) 17 rfl (by decide +kernel) ?_
  refine hw_k (c := 0) (b := 0) (e := 1) (by decide +kernel) ?_
  refine hw_k (c := 6) (b := 1) (e := 2) (by decide +kernel) ?_
  refine hr_cp (a0 := 0) (b0 := 0) (e := 0) 168 21 6 rfl rfl rfl (by decide +kernel) (Nat.le_of_ble_eq_true rfl) ?_
  refine hw_ald (b := 1) (e := 0) (by decide +kernel) rfl (by decide) ?_
  refine hr_gr (w := 169) (b := 4) (e := 10) 164 rfl (by decide +kernel) ?_
  refine hw_k (c := 0) (b := 0) (e := 1) (by decide +kernel) ?_
  refine hw_ald (b := 0) (e := 0) (by decide +kernel) rfl (by decide) ?_
  refine hr_gr (w := 22) (b := 4) (e := 10) 17 rfl (by decide +kernel) ?_
  refine hw_k (c := 0) (b := 0) (e := 1) (by decide +kernel) ?_
  refine hw_k (c := 36) (b := 1) (e := 2) (by decide +kernel) ?_
  refine hr_cp (a0 := 0) (b0 := 0) (e := 0) 169 22 36 rfl rfl rfl (by decide +kernel) (Nat.le_of_ble_eq_true rfl) ?_
  refine hw_ald (b := 1) (e := 0) (by decide +kernel) rfl (by decide) ?_
  refine hr_gr (w := 170) (b := 4) (e := 11) 164 rfl (by decide +kernel) ?_
  refine hw_k (c := 0) (b := 0) (e := 1) (by decide +kernel) ?_
  refine hw_ald (b := 0) (e := 0) (by decide +kernel) rfl (by decide) ?_
  refine hr_gr (w := 23) (b := 4) (e := 11) 17 rfl (by decide +kernel) ?_
  refine hw_k (c := 0) (b := 0) (e := 1) (by decide +kernel) ?_
  refine hw_k (c := 6) (b := 1) (e := 2) (by decide +kernel) ?_
  refine hr_cp (a0 := 0) (b0 := 0) (e := 0) 170 23 6 rfl rfl rfl (by decide +kernel) (Nat.le_of_ble_eq_true rfl) ?_
  refine hw_ald (b := 1) (e := 0) (by decide +kernel) rfl (by decide) ?_
  refine hr_gr (w := 171) (b := 4) (e := 12) 164 rfl (by decide +kernel) ?_
  refine hw_k (c := 0) (b := 0) (e := 1) (by decide +kernel) ?_
  refine hw_ald (b := 0) (e := 0) (by decide +kernel) rfl (by decide) ?_
  refine hr_gr (w := 24) (b := 4) (e := 12) 17 rfl (by decide +kernel) ?_
  refine hw_k (c := 0) (b := 0) (e := 1) (by decide +kernel) ?_
  refine hw_k (c := 6) (b := 1) (e := 2) (by decide +kernel) ?_
  refine hr_cp (a0 := 0) (b0 := 0) (e := 0) 171 24 6 rfl rfl rfl (by decide +kernel) (Nat.le_of_ble_eq_true rfl) ?_
  refine hw_ald (b := 1) (e := 0) (by decide +kernel) rfl (by decide) ?_
  refine hr_gr (w := 172) (b := 4) (e := 13) 164 rfl (by decide +kernel) ?_
  refine hw_k (c := 0) (b := 0) (e := 1) (by decide +kernel) ?_
  refine hw_ald (b := 0) (e := 0) (by decide +kernel) rfl (by decide) ?_
  refine hr_gr (w := 25) (b := 4) (e := 13) 17 rfl (by decide +kernel) ?_
  refine hw_k (c := 0) (b := 0) (e := 1) (by decide +kernel) ?_
  refine hw_k (c := 8) (b := 1) (e := 2) (by decide +kernel) ?_
  refine hr_cp (a0 := 0) (b0 := 0) (e := 0) 172 25 8 rfl rfl rfl (by decide +kernel) (Nat.le_of_ble_eq_true rfl) ?_
  exact hw_vret (a0 := 0) (e := 0) (by decide +kernel) H
theorem sf_66_17_164 {sc : List Int} {d : Nat} {φ : hf_F} {x : Nat} {Q : Option jm_V → hf_F → Nat → Prop}  (hI : Inv φ)  (hQ : ∀ ψ : hf_F, Inv ψ → Fr [17, 18, 19, 20, 21, 22, 23, 24, 25] φ ψ → Q none ψ x) : hw sc d 66 0 [(0, (2, 17)), (1, (2, 164))] [] φ x Q := by
  apply sf_66_17_164_v
  have i1 : Inv (hf_up φ 17 0 (φ 164 0)) := iv_upn hI (by decide) (by decide +kernel)
  have r1 : Fr [17, 18, 19, 20, 21, 22, 23, 24, 25] φ (hf_up φ 17 0 (φ 164 0)) := fr_up (fr_rf) (by decide)
  have f2 := iv_at (a := 164) (k := 1) (lo := (-1 : Int)) (u := 7) hI (by decide +kernel)
  have i3 : Inv (hf_up (hf_up φ 17 0 (φ 164 0)) 17 1 (φ 164 1)) := iv_up (lo := (-1 : Int)) (u := 7) i1 (by decide +kernel) (by omega) (by omega)
  have r3 : Fr [17, 18, 19, 20, 21, 22, 23, 24, 25] φ (hf_up (hf_up φ 17 0 (φ 164 0)) 17 1 (φ 164 1)) := fr_up r1 (by decide)
  have f4 := iv_at (a := 164) (k := 2) (lo := (-1 : Int)) (u := 5) hI (by decide +kernel)
  have i5 : Inv (hf_up (hf_up (hf_up φ 17 0 (φ 164 0)) 17 1 (φ 164 1)) 17 2 (φ 164 2)) := iv_up (lo := (-1 : Int)) (u := 5) i3 (by decide +kernel) (by omega) (by omega)
  have r5 : Fr [17, 18, 19, 20, 21, 22, 23, 24, 25] φ (hf_up (hf_up (hf_up φ 17 0 (φ 164 0)) 17 1 (φ 164 1)) 17 2 (φ 164 2)) := fr_up r3 (by decide)
  have f6 := iv_at (a := 164) (k := 3) (lo := (-2147483648 : Int)) (u := 2147483647) hI (by decide +kernel)
  have i7 : Inv (hf_up (hf_up (hf_up (hf_up φ 17 0 (φ 164 0)) 17 1 (φ 164 1)) 17 2 (φ 164 2)) 17 3 (φ 164 3)) := iv_up (lo := (-2147483648 : Int)) (u := 2147483647) i5 (by decide +kernel) (by omega) (by omega)
  have r7 : Fr [17, 18, 19, 20, 21, 22, 23, 24, 25] φ (hf_up (hf_up (hf_up (hf_up φ 17 0 (φ 164 0)) 17 1 (φ 164 1)) 17 2 (φ 164 2)) 17 3 (φ 164 3)) := fr_up r5 (by decide)
  have i8 : Inv (hf_up (hf_up (hf_up (hf_up (hf_up φ 17 0 (φ 164 0)) 17 1 (φ 164 1)) 17 2 (φ 164 2)) 17 3 (φ 164 3)) 17 4 (φ 164 4)) := iv_upn i7 (by decide) (by decide +kernel)
  have r8 : Fr [17, 18, 19, 20, 21, 22, 23, 24, 25] φ (hf_up (hf_up (hf_up (hf_up (hf_up φ 17 0 (φ 164 0)) 17 1 (φ 164 1)) 17 2 (φ 164 2)) 17 3 (φ 164 3)) 17 4 (φ 164 4)) := fr_up r7 (by decide)
  have i9 : Inv (hf_up (hf_up (hf_up (hf_up (hf_up (hf_up φ 17 0 (φ 164 0)) 17 1 (φ 164 1)) 17 2 (φ 164 2)) 17 3 (φ 164 3)) 17 4 (φ 164 4)) 17 5 (φ 164 5)) := iv_upn i8 (by decide) (by decide +kernel)
  have r9 : Fr [17, 18, 19, 20, 21, 22, 23, 24, 25] φ (hf_up (hf_up (hf_up (hf_up (hf_up (hf_up φ 17 0 (φ 164 0)) 17 1 (φ 164 1)) 17 2 (φ 164 2)) 17 3 (φ 164 3)) 17 4 (φ 164 4)) 17 5 (φ 164 5)) := fr_up r8 (by decide)
  have i10 : Inv (hf_cp (hf_up (hf_up (hf_up (hf_up (hf_up (hf_up φ 17 0 (φ 164 0)) 17 1 (φ 164 1)) 17 2 (φ 164 2)) 17 3 (φ 164 3)) 17 4 (φ 164 4)) 17 5 (φ 164 5)) 165 18 8) := iv_cp i9 (by decide) (by decide +kernel)
  have r10 : Fr [17, 18, 19, 20, 21, 22, 23, 24, 25] φ (hf_cp (hf_up (hf_up (hf_up (hf_up (hf_up (hf_up φ 17 0 (φ 164 0)) 17 1 (φ 164 1)) 17 2 (φ 164 2)) 17 3 (φ 164 3)) 17 4 (φ 164 4)) 17 5 (φ 164 5)) 165 18 8) := fr_cp r9 (by decide)
  have i11 : Inv (hf_cp (hf_cp (hf_up (hf_up (hf_up (hf_up (hf_up (hf_up φ 17 0 (φ 164 0)) 17 1 (φ 164 1)) 17 2 (φ 164 2)) 17 3 (φ 164 3)) 17 4 (φ 164 4)) 17 5 (φ 164 5)) 165 18 8) 166 19 8) := iv_cp i10 (by decide) (by decide +kernel)
  have r11 : Fr [17, 18, 19, 20, 21, 22, 23, 24, 25] φ (hf_cp (hf_cp (hf_up (hf_up (hf_up (hf_up (hf_up (hf_up φ 17 0 (φ 164 0)) 17 1 (φ 164 1)) 17 2 (φ 164 2)) 17 3 (φ 164 3)) 17 4 (φ 164 4)) 17 5 (φ 164 5)) 165 18 8) 166 19 8) := fr_cp r10 (by decide)
  have i12 : Inv (hf_cp (hf_cp (hf_cp (hf_up (hf_up (hf_up (hf_up (hf_up (hf_up φ 17 0 (φ 164 0)) 17 1 (φ 164 1)) 17 2 (φ 164 2)) 17 3 (φ 164 3)) 17 4 (φ 164 4)) 17 5 (φ 164 5)) 165 18 8) 166 19 8) 167 20 6) := iv_cp i11 (by decide) (by decide +kernel)
  have r12 : Fr [17, 18, 19, 20, 21, 22, 23, 24, 25] φ (hf_cp (hf_cp (hf_cp (hf_up (hf_up (hf_up (hf_up (hf_up (hf_up φ 17 0 (φ 164 0)) 17 1 (φ 164 1)) 17 2 (φ 164 2)) 17 3 (φ 164 3)) 17 4 (φ 164 4)) 17 5 (φ 164 5)) 165 18 8) 166 19 8) 167 20 6) := fr_cp r11 (by decide)
  have i13 : Inv (hf_cp (hf_cp (hf_cp (hf_cp (hf_up (hf_up (hf_up (hf_up (hf_up (hf_up φ 17 0 (φ 164 0)) 17 1 (φ 164 1)) 17 2 (φ 164 2)) 17 3 (φ 164 3)) 17 4 (φ 164 4)) 17 5 (φ 164 5)) 165 18 8) 166 19 8) 167 20 6) 168 21 6) := iv_cp i12 (by decide) (by decide +kernel)
  have r13 : Fr [17, 18, 19, 20, 21, 22, 23, 24, 25] φ (hf_cp (hf_cp (hf_cp (hf_cp (hf_up (hf_up (hf_up (hf_up (hf_up (hf_up φ 17 0 (φ 164 0)) 17 1 (φ 164 1)) 17 2 (φ 164 2)) 17 3 (φ 164 3)) 17 4 (φ 164 4)) 17 5 (φ 164 5)) 165 18 8) 166 19 8) 167 20 6) 168 21 6) := fr_cp r12 (by decide)
  have i14 : Inv (hf_cp (hf_cp (hf_cp (hf_cp (hf_cp (hf_up (hf_up (hf_up (hf_up (hf_up (hf_up φ 17 0 (φ 164 0)) 17 1 (φ 164 1)) 17 2 (φ 164 2)) 17 3 (φ 164 3)) 17 4 (φ 164 4)) 17 5 (φ 164 5)) 165 18 8) 166 19 8) 167 20 6) 168 21 6) 169 22 36) := iv_cp i13 (by decide) (by decide +kernel)
  have r14 : Fr [17, 18, 19, 20, 21, 22, 23, 24, 25] φ (hf_cp (hf_cp (hf_cp (hf_cp (hf_cp (hf_up (hf_up (hf_up (hf_up (hf_up (hf_up φ 17 0 (φ 164 0)) 17 1 (φ 164 1)) 17 2 (φ 164 2)) 17 3 (φ 164 3)) 17 4 (φ 164 4)) 17 5 (φ 164 5)) 165 18 8) 166 19 8) 167 20 6) 168 21 6) 169 22 36) := fr_cp r13 (by decide)
  have i15 : Inv (hf_cp (hf_cp (hf_cp (hf_cp (hf_cp (hf_cp (hf_up (hf_up (hf_up (hf_up (hf_up (hf_up φ 17 0 (φ 164 0)) 17 1 (φ 164 1)) 17 2 (φ 164 2)) 17 3 (φ 164 3)) 17 4 (φ 164 4)) 17 5 (φ 164 5)) 165 18 8) 166 19 8) 167 20 6) 168 21 6) 169 22 36) 170 23 6) := iv_cp i14 (by decide) (by decide +kernel)
  have r15 : Fr [17, 18, 19, 20, 21, 22, 23, 24, 25] φ (hf_cp (hf_cp (hf_cp (hf_cp (hf_cp (hf_cp (hf_up (hf_up (hf_up (hf_up (hf_up (hf_up φ 17 0 (φ 164 0)) 17 1 (φ 164 1)) 17 2 (φ 164 2)) 17 3 (φ 164 3)) 17 4 (φ 164 4)) 17 5 (φ 164 5)) 165 18 8) 166 19 8) 167 20 6) 168 21 6) 169 22 36) 170 23 6) := fr_cp r14 (by decide)
  have i16 : Inv (hf_cp (hf_cp (hf_cp (hf_cp (hf_cp (hf_cp (hf_cp (hf_up (hf_up (hf_up (hf_up (hf_up (hf_up φ 17 0 (φ 164 0)) 17 1 (φ 164 1)) 17 2 (φ 164 2)) 17 3 (φ 164 3)) 17 4 (φ 164 4)) 17 5 (φ 164 5)) 165 18 8) 166 19 8) 167 20 6) 168 21 6) 169 22 36) 170 23 6) 171 24 6) := iv_cp i15 (by decide) (by decide +kernel)
  have r16 : Fr [17, 18, 19, 20, 21, 22, 23, 24, 25] φ (hf_cp (hf_cp (hf_cp (hf_cp (hf_cp (hf_cp (hf_cp (hf_up (hf_up (hf_up (hf_up (hf_up (hf_up φ 17 0 (φ 164 0)) 17 1 (φ 164 1)) 17 2 (φ 164 2)) 17 3 (φ 164 3)) 17 4 (φ 164 4)) 17 5 (φ 164 5)) 165 18 8) 166 19 8) 167 20 6) 168 21 6) 169 22 36) 170 23 6) 171 24 6) := fr_cp r15 (by decide)
  have i17 : Inv (hf_cp (hf_cp (hf_cp (hf_cp (hf_cp (hf_cp (hf_cp (hf_cp (hf_up (hf_up (hf_up (hf_up (hf_up (hf_up φ 17 0 (φ 164 0)) 17 1 (φ 164 1)) 17 2 (φ 164 2)) 17 3 (φ 164 3)) 17 4 (φ 164 4)) 17 5 (φ 164 5)) 165 18 8) 166 19 8) 167 20 6) 168 21 6) 169 22 36) 170 23 6) 171 24 6) 172 25 8) := iv_cp i16 (by decide) (by decide +kernel)
  have r17 : Fr [17, 18, 19, 20, 21, 22, 23, 24, 25] φ (hf_cp (hf_cp (hf_cp (hf_cp (hf_cp (hf_cp (hf_cp (hf_cp (hf_up (hf_up (hf_up (hf_up (hf_up (hf_up φ 17 0 (φ 164 0)) 17 1 (φ 164 1)) 17 2 (φ 164 2)) 17 3 (φ 164 3)) 17 4 (φ 164 4)) 17 5 (φ 164 5)) 165 18 8) 166 19 8) 167 20 6) 168 21 6) 169 22 36) 170 23 6) 171 24 6) 172 25 8) := fr_cp r16 (by decide)
  exact hQ (hf_cp (hf_cp (hf_cp (hf_cp (hf_cp (hf_cp (hf_cp (hf_cp (hf_up (hf_up (hf_up (hf_up (hf_up (hf_up φ 17 0 (φ 164 0)) 17 1 (φ 164 1)) 17 2 (φ 164 2)) 17 3 (φ 164 3)) 17 4 (φ 164 4)) 17 5 (φ 164 5)) 165 18 8) 166 19 8) 167 20 6) 168 21 6) 169 22 36) 170 23 6) 171 24 6) 172 25 8) i17 r17
theorem sf_66_17_173_v {sc : List Int} {d : Nat} {φ : hf_F} {x : Nat} {Q : Option jm_V → hf_F → Nat → Prop} 
    (H : Q none (hf_cp (hf_cp (hf_cp (hf_cp (hf_cp (hf_cp (hf_cp (hf_cp (hf_up (hf_up (hf_up (hf_up (hf_up (hf_up φ 17 0 (φ 173 0)) 17 1 (φ 173 1)) 17 2 (φ 173 2)) 17 3 (φ 173 3)) 17 4 (φ 173 4)) 17 5 (φ 173 5)) 174 18 8) 175 19 8) 176 20 6) 177 21 6) 178 22 36) 179 23 6) 180 24 6) 181 25 8) x) :
    hw sc d 66 0 [(0, (2, 17)), (1, (2, 173))] [] φ x Q := by
  refine hw_ald (b := 0) (e := 0) (by decide +kernel) rfl (by decide) ?_
  refine hw_ald (b := 1) (e := 0) (by decide +kernel) rfl (by decide) ?_
  refine hr_gi (w := φ 173 0) (b := 4) (e := 0) 173 rfl (by decide +kernel) rfl ?_
  refine hr_pi (b := 4) (e := 0) 17 rfl (by decide +kernel) ?_
  refine hw_ald (b := 0) (e := 0) (by decide +kernel) rfl (by decide) ?_
  refine hw_ald (b := 1) (e := 0) (by decide +kernel) rfl (by decide) ?_
  refine hr_gi (w := φ 173 1) (b := 4) (e := 1) 173 rfl (by decide +kernel) (hf_up_ne (fun q => absurd q.1 (by decide))) ?_
  refine hr_pi (b := 4) (e := 1) 17 rfl (by decide +kernel) ?_
  refine hw_ald (b := 0) (e := 0) (by decide +kernel) rfl (by decide) ?_
  refine hw_ald (b := 1) (e := 0) (by decide +kernel) rfl (by decide) ?_
  refine hr_gi (w := φ 173 2) (b := 4) (e := 2) 173 rfl (by decide +kernel) ((hf_up_ne (fun q => absurd q.1 (by decide))).trans (hf_up_ne (fun q => absurd q.1 (by decide)))) ?_
  refine hr_pi (b := 4) (e := 2) 17 rfl (by decide +kernel) ?_
  refine hw_ald (b := 0) (e := 0) (by decide +kernel) rfl (by decide) ?_
  refine hw_ald (b := 1) (e := 0) (by decide +kernel) rfl (by decide) ?_
  refine hr_gi (w := φ 173 3) (b := 4) (e := 3) 173 rfl (by decide +kernel) ((hf_up_ne (fun q => absurd q.1 (by decide))).trans ((hf_up_ne (fun q => absurd q.1 (by decide))).trans (hf_up_ne (fun q => absurd q.1 (by decide))))) ?_
  refine hr_pi (b := 4) (e := 3) 17 rfl (by decide +kernel) ?_
  refine hw_ald (b := 0) (e := 0) (by decide +kernel) rfl (by decide) ?_
  refine hw_ald (b := 1) (e := 0) (by decide +kernel) rfl (by decide) ?_
  refine hr_gi (w := φ 173 4) (b := 4) (e := 4) 173 rfl (by decide +kernel) ((hf_up_ne (fun q => absurd q.1 (by decide))).trans ((hf_up_ne (fun q => absurd q.1 (by decide))).trans ((hf_up_ne (fun q => absurd q.1 (by decide))).trans (hf_up_ne (fun q => absurd q.1 (by decide)))))) ?_
  refine hr_pi (b := 4) (e := 4) 17 rfl (by decide +kernel) ?_
  refine hw_ald (b := 0) (e := 0) (by decide +kernel) rfl (by decide) ?_
  refine hw_ald (b := 1) (e := 0) (by decide +kernel) rfl (by decide) ?_
  refine hr_gi (w := φ 173 5) (b := 4) (e := 5) 173 rfl (by decide +kernel) ((hf_up_ne (fun q => absurd q.1 (by decide))).trans ((hf_up_ne (fun q => absurd q.1 (by decide))).trans ((hf_up_ne (fun q => absurd q.1 (by decide))).trans ((hf_up_ne (fun q => absurd q.1 (by decide))).trans (hf_up_ne (fun q => absurd q.1 (by decide))))))) ?_
  refine hr_pi (b := 4) (e := 5) 17 rfl (by decide +kernel) ?_
  refine hw_ald (b := 1) (e := 0) (by decide +kernel) rfl (by decide) ?_
  refine hr_gr (w := 174) (b := 4) (e := 6) 173 rfl (by decide +kernel) ?_
  refine hw_k (c := 0) (b := 0) (e := 1) (by decide +kernel) ?_
  refine hw_ald (b := 0) (e := 0) (by decide +kernel) rfl (by decide) ?_
  refine hr_gr (w := 18) (b := 4) (e := 6) 17 rfl (by decide +kernel) ?_
  refine hw_k (c := 0) (b := 0) (e := 1) (by decide +kernel) ?_
  refine hw_k (c := 8) (b := 1) (e := 2) (by decide +kernel) ?_
  refine hr_cp (a0 := 0) (b0 := 0) (e := 0) 174 18 8 rfl rfl rfl (by decide +kernel) (Nat.le_of_ble_eq_true rfl) ?_
  refine hw_ald (b := 1) (e := 0) (by decide +kernel) rfl (by decide) ?_
  refine hr_gr (w := 175) (b := 4) (e := 7) 173 rfl (by decide +kernel) ?_
  refine hw_k (c := 0) (b := 0) (e := 1) (by decide +kernel) ?_
  refine hw_ald (b := 0) (e := 0) (by decide +kernel) rfl (by decide) ?_
  refine hr_gr (w := 19) (b := 4) (e := 7) 17 rfl (by decide +kernel) ?_
  refine hw_k (c := 0) (b := 0) (e := 1) (by decide +kernel) ?_
  refine hw_k (c := 8) (b := 1) (e := 2) (by decide +kernel) ?_
  refine hr_cp (a0 := 0) (b0 := 0) (e := 0) 175 19 8 rfl rfl rfl (by decide +kernel) (Nat.le_of_ble_eq_true rfl) ?_
  refine hw_ald (b := 1) (e := 0) (by decide +kernel) rfl (by decide) ?_
  refine hr_gr (w := 176) (b := 4) (e := 8) 173 rfl (by decide +kernel) ?_
  refine hw_k (c := 0) (b := 0) (e := 1) (by decide +kernel) ?_
  refine hw_ald (b := 0) (e := 0) (by decide +kernel) rfl (by decide) ?_
  refine hr_gr (w := 20) (b := 4) (e := 8) 17 rfl (by decide +kernel) ?_
  refine hw_k (c := 0) (b := 0) (e := 1) (by decide +kernel) ?_
  refine hw_k (c := 6) (b := 1) (e := 2) (by decide +kernel) ?_
  refine hr_cp (a0 := 0) (b0 := 0) (e := 0) 176 20 6 rfl rfl rfl (by decide +kernel) (Nat.le_of_ble_eq_true rfl) ?_
  refine hw_ald (b := 1) (e := 0) (by decide +kernel) rfl (by decide) ?_
  refine hr_gr (w := 177) (b := 4) (e := 9) 173 rfl (by decide +kernel) ?_
  refine hw_k (c := 0) (b := 0) (e := 1) (by decide +kernel) ?_
  refine hw_ald (b := 0) (e := 0) (by decide +kernel) rfl (by decide) ?_
  refine hr_gr (w := 21) (b := 4) (e := 9) 17 rfl (by decide +kernel) ?_
  refine hw_k (c := 0) (b := 0) (e := 1) (by decide +kernel) ?_
  refine hw_k (c := 6) (b := 1) (e := 2) (by decide +kernel) ?_
  refine hr_cp (a0 := 0) (b0 := 0) (e := 0) 177 21 6 rfl rfl rfl (by decide +kernel) (Nat.le_of_ble_eq_true rfl) ?_
  refine hw_ald (b := 1) (e := 0) (by decide +kernel) rfl (by decide) ?_
  refine hr_gr (w := 178) (b := 4) (e := 10) 173 rfl (by decide +kernel) ?_
  refine hw_k (c := 0) (b := 0) (e := 1) (by decide +kernel) ?_
  refine hw_ald (b := 0) (e := 0) (by decide +kernel) rfl (by decide) ?_
  refine hr_gr (w := 22) (b := 4) (e := 10) 17 rfl (by decide +kernel) ?_
  refine hw_k (c := 0) (b := 0) (e := 1) (by decide +kernel) ?_
  refine hw_k (c := 36) (b := 1) (e := 2) (by decide +kernel) ?_
  refine hr_cp (a0 := 0) (b0 := 0) (e := 0) 178 22 36 rfl rfl rfl (by decide +kernel) (Nat.le_of_ble_eq_true rfl) ?_
  refine hw_ald (b := 1) (e := 0) (by decide +kernel) rfl (by decide) ?_
  refine hr_gr (w := 179) (b := 4) (e := 11) 173 rfl (by decide +kernel) ?_
  refine hw_k (c := 0) (b := 0) (e := 1) (by decide +kernel) ?_
  refine hw_ald (b := 0) (e := 0) (by decide +kernel) rfl (by decide) ?_
  refine hr_gr (w := 23) (b := 4) (e := 11) 17 rfl (by decide +kernel) ?_
  refine hw_k (c := 0) (b := 0) (e := 1) (by decide +kernel) ?_
  refine hw_k (c := 6) (b := 1) (e := 2) (by decide +kernel) ?_
  refine hr_cp (a0 := 0) (b0 := 0) (e := 0) 179 23 6 rfl rfl rfl (by decide +kernel) (Nat.le_of_ble_eq_true rfl) ?_
  refine hw_ald (b := 1) (e := 0) (by decide +kernel) rfl (by decide) ?_
  refine hr_gr (w := 180) (b := 4) (e := 12) 173 rfl (by decide +kernel) ?_
  refine hw_k (c := 0) (b := 0) (e := 1) (by decide +kernel) ?_
  refine hw_ald (b := 0) (e := 0) (by decide +kernel) rfl (by decide) ?_
  refine hr_gr (w := 24) (b := 4) (e := 12) 17 rfl (by decide +kernel) ?_
  refine hw_k (c := 0) (b := 0) (e := 1) (by decide +kernel) ?_
  refine hw_k (c := 6) (b := 1) (e := 2) (by decide +kernel) ?_
  refine hr_cp (a0 := 0) (b0 := 0) (e := 0) 180 24 6 rfl rfl rfl (by decide +kernel) (Nat.le_of_ble_eq_true rfl) ?_
  refine hw_ald (b := 1) (e := 0) (by decide +kernel) rfl (by decide) ?_
  refine hr_gr (w := 181) (b := 4) (e := 13) 173 rfl (by decide +kernel) ?_
  refine hw_k (c := 0) (b := 0) (e := 1) (by decide +kernel) ?_
  refine hw_ald (b := 0) (e := 0) (by decide +kernel) rfl (by decide) ?_
  refine hr_gr (w := 25) (b := 4) (e := 13) 17 rfl (by decide +kernel) ?_
  refine hw_k (c := 0) (b := 0) (e := 1) (by decide +kernel) ?_
  refine hw_k (c := 8) (b := 1) (e := 2) (by decide +kernel) ?_
  refine hr_cp (a0 := 0) (b0 := 0) (e := 0) 181 25 8 rfl rfl rfl (by decide +kernel) (Nat.le_of_ble_eq_true rfl) ?_
  exact hw_vret (a0 := 0) (e := 0) (by decide +kernel) H
theorem sf_66_17_173 {sc : List Int} {d : Nat} {φ : hf_F} {x : Nat} {Q : Option jm_V → hf_F → Nat → Prop}  (hI : Inv φ)  (hQ : ∀ ψ : hf_F, Inv ψ → Fr [17, 18, 19, 20, 21, 22, 23, 24, 25] φ ψ → Q none ψ x) : hw sc d 66 0 [(0, (2, 17)), (1, (2, 173))] [] φ x Q := by
  apply sf_66_17_173_v
  have i1 : Inv (hf_up φ 17 0 (φ 173 0)) := iv_upn hI (by decide) (by decide +kernel)
  have r1 : Fr [17, 18, 19, 20, 21, 22, 23, 24, 25] φ (hf_up φ 17 0 (φ 173 0)) := fr_up (fr_rf) (by decide)
  have f2 := iv_at (a := 173) (k := 1) (lo := (-1 : Int)) (u := 7) hI (by decide +kernel)
  have i3 : Inv (hf_up (hf_up φ 17 0 (φ 173 0)) 17 1 (φ 173 1)) := iv_up (lo := (-1 : Int)) (u := 7) i1 (by decide +kernel) (by omega) (by omega)
  have r3 : Fr [17, 18, 19, 20, 21, 22, 23, 24, 25] φ (hf_up (hf_up φ 17 0 (φ 173 0)) 17 1 (φ 173 1)) := fr_up r1 (by decide)
  have f4 := iv_at (a := 173) (k := 2) (lo := (-1 : Int)) (u := 5) hI (by decide +kernel)
  have i5 : Inv (hf_up (hf_up (hf_up φ 17 0 (φ 173 0)) 17 1 (φ 173 1)) 17 2 (φ 173 2)) := iv_up (lo := (-1 : Int)) (u := 5) i3 (by decide +kernel) (by omega) (by omega)
  have r5 : Fr [17, 18, 19, 20, 21, 22, 23, 24, 25] φ (hf_up (hf_up (hf_up φ 17 0 (φ 173 0)) 17 1 (φ 173 1)) 17 2 (φ 173 2)) := fr_up r3 (by decide)
  have f6 := iv_at (a := 173) (k := 3) (lo := (-2147483648 : Int)) (u := 2147483647) hI (by decide +kernel)
  have i7 : Inv (hf_up (hf_up (hf_up (hf_up φ 17 0 (φ 173 0)) 17 1 (φ 173 1)) 17 2 (φ 173 2)) 17 3 (φ 173 3)) := iv_up (lo := (-2147483648 : Int)) (u := 2147483647) i5 (by decide +kernel) (by omega) (by omega)
  have r7 : Fr [17, 18, 19, 20, 21, 22, 23, 24, 25] φ (hf_up (hf_up (hf_up (hf_up φ 17 0 (φ 173 0)) 17 1 (φ 173 1)) 17 2 (φ 173 2)) 17 3 (φ 173 3)) := fr_up r5 (by decide)
  have i8 : Inv (hf_up (hf_up (hf_up (hf_up (hf_up φ 17 0 (φ 173 0)) 17 1 (φ 173 1)) 17 2 (φ 173 2)) 17 3 (φ 173 3)) 17 4 (φ 173 4)) := iv_upn i7 (by decide) (by decide +kernel)
  have r8 : Fr [17, 18, 19, 20, 21, 22, 23, 24, 25] φ (hf_up (hf_up (hf_up (hf_up (hf_up φ 17 0 (φ 173 0)) 17 1 (φ 173 1)) 17 2 (φ 173 2)) 17 3 (φ 173 3)) 17 4 (φ 173 4)) := fr_up r7 (by decide)
  have i9 : Inv (hf_up (hf_up (hf_up (hf_up (hf_up (hf_up φ 17 0 (φ 173 0)) 17 1 (φ 173 1)) 17 2 (φ 173 2)) 17 3 (φ 173 3)) 17 4 (φ 173 4)) 17 5 (φ 173 5)) := iv_upn i8 (by decide) (by decide +kernel)
  have r9 : Fr [17, 18, 19, 20, 21, 22, 23, 24, 25] φ (hf_up (hf_up (hf_up (hf_up (hf_up (hf_up φ 17 0 (φ 173 0)) 17 1 (φ 173 1)) 17 2 (φ 173 2)) 17 3 (φ 173 3)) 17 4 (φ 173 4)) 17 5 (φ 173 5)) := fr_up r8 (by decide)
  have i10 : Inv (hf_cp (hf_up (hf_up (hf_up (hf_up (hf_up (hf_up φ 17 0 (φ 173 0)) 17 1 (φ 173 1)) 17 2 (φ 173 2)) 17 3 (φ 173 3)) 17 4 (φ 173 4)) 17 5 (φ 173 5)) 174 18 8) := iv_cp i9 (by decide) (by decide +kernel)
  have r10 : Fr [17, 18, 19, 20, 21, 22, 23, 24, 25] φ (hf_cp (hf_up (hf_up (hf_up (hf_up (hf_up (hf_up φ 17 0 (φ 173 0)) 17 1 (φ 173 1)) 17 2 (φ 173 2)) 17 3 (φ 173 3)) 17 4 (φ 173 4)) 17 5 (φ 173 5)) 174 18 8) := fr_cp r9 (by decide)
  have i11 : Inv (hf_cp (hf_cp (hf_up (hf_up (hf_up (hf_up (hf_up (hf_up φ 17 0 (φ 173 0)) 17 1 (φ 173 1)) 17 2 (φ 173 2)) 17 3 (φ 173 3)) 17 4 (φ 173 4)) 17 5 (φ 173 5)) 174 18 8) 175 19 8) := iv_cp i10 (by decide) (by decide +kernel)
  have r11 : Fr [17, 18, 19, 20, 21, 22, 23, 24, 25] φ (hf_cp (hf_cp (hf_up (hf_up (hf_up (hf_up (hf_up (hf_up φ 17 0 (φ 173 0)) 17 1 (φ 173 1)) 17 2 (φ 173 2)) 17 3 (φ 173 3)) 17 4 (φ 173 4)) 17 5 (φ 173 5)) 174 18 8) 175 19 8) := fr_cp r10 (by decide)
  have i12 : Inv (hf_cp (hf_cp (hf_cp (hf_up (hf_up (hf_up (hf_up (hf_up (hf_up φ 17 0 (φ 173 0)) 17 1 (φ 173 1)) 17 2 (φ 173 2)) 17 3 (φ 173 3)) 17 4 (φ 173 4)) 17 5 (φ 173 5)) 174 18 8) 175 19 8) 176 20 6) := iv_cp i11 (by decide) (by decide +kernel)
  have r12 : Fr [17, 18, 19, 20, 21, 22, 23, 24, 25] φ (hf_cp (hf_cp (hf_cp (hf_up (hf_up (hf_up (hf_up (hf_up (hf_up φ 17 0 (φ 173 0)) 17 1 (φ 173 1)) 17 2 (φ 173 2)) 17 3 (φ 173 3)) 17 4 (φ 173 4)) 17 5 (φ 173 5)) 174 18 8) 175 19 8) 176 20 6) := fr_cp r11 (by decide)
  have i13 : Inv (hf_cp (hf_cp (hf_cp (hf_cp (hf_up (hf_up (hf_up (hf_up (hf_up (hf_up φ 17 0 (φ 173 0)) 17 1 (φ 173 1)) 17 2 (φ 173 2)) 17 3 (φ 173 3)) 17 4 (φ 173 4)) 17 5 (φ 173 5)) 174 18 8) 175 19 8) 176 20 6) 177 21 6) := iv_cp i12 (by decide) (by decide +kernel)
  have r13 : Fr [17, 18, 19, 20, 21, 22, 23, 24, 25] φ (hf_cp (hf_cp (hf_cp (hf_cp (hf_up (hf_up (hf_up (hf_up (hf_up (hf_up φ 17 0 (φ 173 0)) 17 1 (φ 173 1)) 17 2 (φ 173 2)) 17 3 (φ 173 3)) 17 4 (φ 173 4)) 17 5 (φ 173 5)) 174 18 8) 175 19 8) 176 20 6) 177 21 6) := fr_cp r12 (by decide)
  have i14 : Inv (hf_cp (hf_cp (hf_cp (hf_cp (hf_cp (hf_up (hf_up (hf_up (hf_up (hf_up (hf_up φ 17 0 (φ 173 0)) 17 1 (φ 173 1)) 17 2 (φ 173 2)) 17 3 (φ 173 3)) 17 4 (φ 173 4)) 17 5 (φ 173 5)) 174 18 8) 175 19 8) 176 20 6) 177 21 6) 178 22 36) := iv_cp i13 (by decide) (by decide +kernel)
  have r14 : Fr [17, 18, 19, 20, 21, 22, 23, 24, 25] φ (hf_cp (hf_cp (hf_cp (hf_cp (hf_cp (hf_up (hf_up (hf_up (hf_up (hf_up (hf_up φ 17 0 (φ 173 0)) 17 1 (φ 173 1)) 17 2 (φ 173 2)) 17 3 (φ 173 3)) 17 4 (φ 173 4)) 17 5 (φ 173 5)) 174 18 8) 175 19 8) 176 20 6) 177 21 6) 178 22 36) := fr_cp r13 (by decide)
  have i15 : Inv (hf_cp (hf_cp (hf_cp (hf_cp (hf_cp (hf_cp (hf_up (hf_up (hf_up (hf_up (hf_up (hf_up φ 17 0 (φ 173 0)) 17 1 (φ 173 1)) 17 2 (φ 173 2)) 17 3 (φ 173 3)) 17 4 (φ 173 4)) 17 5 (φ 173 5)) 174 18 8) 175 19 8) 176 20 6) 177 21 6) 178 22 36) 179 23 6) := iv_cp i14 (by decide) (by decide +kernel)
  have r15 : Fr [17, 18, 19, 20, 21, 22, 23, 24, 25] φ (hf_cp (hf_cp (hf_cp (hf_cp (hf_cp (hf_cp (hf_up (hf_up (hf_up (hf_up (hf_up (hf_up φ 17 0 (φ 173 0)) 17 1 (φ 173 1)) 17 2 (φ 173 2)) 17 3 (φ 173 3)) 17 4 (φ 173 4)) 17 5 (φ 173 5)) 174 18 8) 175 19 8) 176 20 6) 177 21 6) 178 22 36) 179 23 6) := fr_cp r14 (by decide)
  have i16 : Inv (hf_cp (hf_cp (hf_cp (hf_cp (hf_cp (hf_cp (hf_cp (hf_up (hf_up (hf_up (hf_up (hf_up (hf_up φ 17 0 (φ 173 0)) 17 1 (φ 173 1)) 17 2 (φ 173 2)) 17 3 (φ 173 3)) 17 4 (φ 173 4)) 17 5 (φ 173 5)) 174 18 8) 175 19 8) 176 20 6) 177 21 6) 178 22 36) 179 23 6) 180 24 6) := iv_cp i15 (by decide) (by decide +kernel)
  have r16 : Fr [17, 18, 19, 20, 21, 22, 23, 24, 25] φ (hf_cp (hf_cp (hf_cp (hf_cp (hf_cp (hf_cp (hf_cp (hf_up (hf_up (hf_up (hf_up (hf_up (hf_up φ 17 0 (φ 173 0)) 17 1 (φ 173 1)) 17 2 (φ 173 2)) 17 3 (φ 173 3)) 17 4 (φ 173 4)) 17 5 (φ 173 5)) 174 18 8) 175 19 8) 176 20 6) 177 21 6) 178 22 36) 179 23 6) 180 24 6) := fr_cp r15 (by decide)
  have i17 : Inv (hf_cp (hf_cp (hf_cp (hf_cp (hf_cp (hf_cp (hf_cp (hf_cp (hf_up (hf_up (hf_up (hf_up (hf_up (hf_up φ 17 0 (φ 173 0)) 17 1 (φ 173 1)) 17 2 (φ 173 2)) 17 3 (φ 173 3)) 17 4 (φ 173 4)) 17 5 (φ 173 5)) 174 18 8) 175 19 8) 176 20 6) 177 21 6) 178 22 36) 179 23 6) 180 24 6) 181 25 8) := iv_cp i16 (by decide) (by decide +kernel)
  have r17 : Fr [17, 18, 19, 20, 21, 22, 23, 24, 25] φ (hf_cp (hf_cp (hf_cp (hf_cp (hf_cp (hf_cp (hf_cp (hf_cp (hf_up (hf_up (hf_up (hf_up (hf_up (hf_up φ 17 0 (φ 173 0)) 17 1 (φ 173 1)) 17 2 (φ 173 2)) 17 3 (φ 173 3)) 17 4 (φ 173 4)) 17 5 (φ 173 5)) 174 18 8) 175 19 8) 176 20 6) 177 21 6) 178 22 36) 179 23 6) 180 24 6) 181 25 8) := fr_cp r16 (by decide)
  exact hQ (hf_cp (hf_cp (hf_cp (hf_cp (hf_cp (hf_cp (hf_cp (hf_cp (hf_up (hf_up (hf_up (hf_up (hf_up (hf_up φ 17 0 (φ 173 0)) 17 1 (φ 173 1)) 17 2 (φ 173 2)) 17 3 (φ 173 3)) 17 4 (φ 173 4)) 17 5 (φ 173 5)) 174 18 8) 175 19 8) 176 20 6) 177 21 6) 178 22 36) 179 23 6) 180 24 6) 181 25 8) i17 r17
theorem sf_95_108_17_v {sc : List Int} {d : Nat} {φ : hf_F} {x : Nat} {Q : Option jm_V → hf_F → Nat → Prop} 
    (H : hi (φ 108 1) ∧ (0 < (φ 108 1) → 0 ≤ ((φ 108 1) - 1) ∧ ((φ 108 1) - 1) < 8 ∧ Bf1 (φ 109 (((φ 108 1) - 1).toNat)) ∧ ((φ 109 (((φ 108 1) - 1).toNat)) = 110 → hw sc d 66 0 [(0, (2, 17)), (1, (2, 110))] [] (hf_up φ 108 1 ((φ 108 1) - 1)) x (fun r ψ3 y3 => y3 = x ∧ (r = none ∧ (Q (some (0, 1)) ψ3 x)))) ∧ ((φ 109 (((φ 108 1) - 1).toNat)) = 119 → hw sc d 66 0 [(0, (2, 17)), (1, (2, 119))] [] (hf_up φ 108 1 ((φ 108 1) - 1)) x (fun r ψ5 y5 => y5 = x ∧ (r = none ∧ (Q (some (0, 1)) ψ5 x)))) ∧ ((φ 109 (((φ 108 1) - 1).toNat)) = 128 → hw sc d 66 0 [(0, (2, 17)), (1, (2, 128))] [] (hf_up φ 108 1 ((φ 108 1) - 1)) x (fun r ψ7 y7 => y7 = x ∧ (r = none ∧ (Q (some (0, 1)) ψ7 x)))) ∧ ((φ 109 (((φ 108 1) - 1).toNat)) = 137 → hw sc d 66 0 [(0, (2, 17)), (1, (2, 137))] [] (hf_up φ 108 1 ((φ 108 1) - 1)) x (fun r ψ9 y9 => y9 = x ∧ (r = none ∧ (Q (some (0, 1)) ψ9 x)))) ∧ ((φ 109 (((φ 108 1) - 1).toNat)) = 146 → hw sc d 66 0 [(0, (2, 17)), (1, (2, 146))] [] (hf_up φ 108 1 ((φ 108 1) - 1)) x (fun r ψ11 y11 => y11 = x ∧ (r = none ∧ (Q (some (0, 1)) ψ11 x)))) ∧ ((φ 109 (((φ 108 1) - 1).toNat)) = 155 → hw sc d 66 0 [(0, (2, 17)), (1, (2, 155))] [] (hf_up φ 108 1 ((φ 108 1) - 1)) x (fun r ψ13 y13 => y13 = x ∧ (r = none ∧ (Q (some (0, 1)) ψ13 x)))) ∧ ((φ 109 (((φ 108 1) - 1).toNat)) = 164 → hw sc d 66 0 [(0, (2, 17)), (1, (2, 164))] [] (hf_up φ 108 1 ((φ 108 1) - 1)) x (fun r ψ15 y15 => y15 = x ∧ (r = none ∧ (Q (some (0, 1)) ψ15 x)))) ∧ ((φ 109 (((φ 108 1) - 1).toNat)) = 173 → hw sc d 66 0 [(0, (2, 17)), (1, (2, 173))] [] (hf_up φ 108 1 ((φ 108 1) - 1)) x (fun r ψ17 y17 => y17 = x ∧ (r = none ∧ (Q (some (0, 1)) ψ17 x))))) ∧ (¬ 0 < (φ 108 1) → Q (some (0, 0)) φ x)) :
    hw sc (d + 1) 95 0 [(0, (2, 108)), (1, (2, 17))] [] φ x Q := by
  refine hw_ald (b := 0) (e := 0) (by decide +kernel) rfl (by decide) ?_
  refine hr_gi (w := φ 108 1) (b := 6) (e := 1) 108 rfl (by decide +kernel) rfl ?_
  obtain ⟨hz1, ht1, hf1⟩ := H
  refine hw_if (a0 := 0) (b := 4) (e := 9) (by decide +kernel) hz1 (fun q => ?_) (fun q => ?_)
  · have H := ht1 q
    refine hw_ald (b := 0) (e := 0) (by decide +kernel) rfl (by decide) ?_
    refine hw_dup (a0 := 0) (e := 0) (by decide +kernel) (by decide) ?_
    refine hr_gi (w := φ 108 1) (b := 6) (e := 1) 108 rfl (by decide +kernel) rfl ?_
    refine hw_k (c := 1) (b := 0) (e := 1) (by decide +kernel) ?_
    refine hw_bin (w := (φ 108 1) - 1) (a0 := 0) (b := 1) (e := 0) (by decide +kernel) rfl ?_
    refine hr_pi (b := 6) (e := 1) 108 rfl (by decide +kernel) ?_
    refine hw_ald (b := 1) (e := 0) (by decide +kernel) rfl (by decide) ?_
    refine hw_ald (b := 0) (e := 0) (by decide +kernel) rfl (by decide) ?_
    refine hr_gr (w := 109) (b := 6) (e := 0) 108 rfl (by decide +kernel) ?_
    refine hw_ald (b := 0) (e := 0) (by decide +kernel) rfl (by decide) ?_
    refine hr_gi (w := (φ 108 1) - 1) (b := 6) (e := 1) 108 rfl (by decide +kernel) hf_up_eq ?_
    obtain ⟨hl2, hu2, H⟩ := H
    obtain ⟨hm2, H⟩ := H
    rcases hm2 with hm | hm | hm | hm | hm | hm | hm | hm
    · have H := H.1 hm
      refine hr_ala (a0 := 0) (e := 0) (n := 8) (w := 110) 109 rfl (by decide +kernel) hl2 hu2 ((hf_up_ne (fun q => absurd q.1 (by decide))).trans hm) ?_
      refine hr_call (a0 := 14) (b := 66) (e := 2) (nl := 2) (As := [(2, 110)]) (R := []) 17 rfl (by decide +kernel) rfl rfl (Nat.le_of_ble_eq_true rfl) (Nat.le_of_ble_eq_true rfl) ?_
      refine hw_mono H ?_
      rintro r ψ3 y3 ⟨hyx, hr, H⟩
      subst hyx
      subst hr
      refine ⟨hnen, ?_⟩
      show hw sc (d + 1) 95 32 [(0, (2, 108)), (1, (2, 17))] [] ψ3 y3 Q
      refine hw_k (c := 1) (b := 0) (e := 1) (by decide +kernel) ?_
      exact hw_ret (a0 := 0) (e := 1) (by decide +kernel) (Or.inr ⟨rfl, by decide⟩) H
    · have H := H.2.1 hm
      refine hr_ala (a0 := 0) (e := 0) (n := 8) (w := 119) 109 rfl (by decide +kernel) hl2 hu2 ((hf_up_ne (fun q => absurd q.1 (by decide))).trans hm) ?_
      refine hr_call (a0 := 14) (b := 66) (e := 2) (nl := 2) (As := [(2, 119)]) (R := []) 17 rfl (by decide +kernel) rfl rfl (Nat.le_of_ble_eq_true rfl) (Nat.le_of_ble_eq_true rfl) ?_
      refine hw_mono H ?_
      rintro r ψ5 y5 ⟨hyx, hr, H⟩
      subst hyx
      subst hr
      refine ⟨hnen, ?_⟩
      show hw sc (d + 1) 95 32 [(0, (2, 108)), (1, (2, 17))] [] ψ5 y5 Q
      refine hw_k (c := 1) (b := 0) (e := 1) (by decide +kernel) ?_
      exact hw_ret (a0 := 0) (e := 1) (by decide +kernel) (Or.inr ⟨rfl, by decide⟩) H
    · have H := H.2.2.1 hm
      refine hr_ala (a0 := 0) (e := 0) (n := 8) (w := 128) 109 rfl (by decide +kernel) hl2 hu2 ((hf_up_ne (fun q => absurd q.1 (by decide))).trans hm) ?_
      refine hr_call (a0 := 14) (b := 66) (e := 2) (nl := 2) (As := [(2, 128)]) (R := []) 17 rfl (by decide +kernel) rfl rfl (Nat.le_of_ble_eq_true rfl) (Nat.le_of_ble_eq_true rfl) ?_
      refine hw_mono H ?_
      rintro r ψ7 y7 ⟨hyx, hr, H⟩
      subst hyx
      subst hr
      refine ⟨hnen, ?_⟩
      show hw sc (d + 1) 95 32 [(0, (2, 108)), (1, (2, 17))] [] ψ7 y7 Q
      refine hw_k (c := 1) (b := 0) (e := 1) (by decide +kernel) ?_
      exact hw_ret (a0 := 0) (e := 1) (by decide +kernel) (Or.inr ⟨rfl, by decide⟩) H
    · have H := H.2.2.2.1 hm
      refine hr_ala (a0 := 0) (e := 0) (n := 8) (w := 137) 109 rfl (by decide +kernel) hl2 hu2 ((hf_up_ne (fun q => absurd q.1 (by decide))).trans hm) ?_
      refine hr_call (a0 := 14) (b := 66) (e := 2) (nl := 2) (As := [(2, 137)]) (R := []) 17 rfl (by decide +kernel) rfl rfl (Nat.le_of_ble_eq_true rfl) (Nat.le_of_ble_eq_true rfl) ?_
      refine hw_mono H ?_
      rintro r ψ9 y9 ⟨hyx, hr, H⟩
      subst hyx
      subst hr
      refine ⟨hnen, ?_⟩
      show hw sc (d + 1) 95 32 [(0, (2, 108)), (1, (2, 17))] [] ψ9 y9 Q
      refine hw_k (c := 1) (b := 0) (e := 1) (by decide +kernel) ?_
      exact hw_ret (a0 := 0) (e := 1) (by decide +kernel) (Or.inr ⟨rfl, by decide⟩) H
    · have H := H.2.2.2.2.1 hm
      refine hr_ala (a0 := 0) (e := 0) (n := 8) (w := 146) 109 rfl (by decide +kernel) hl2 hu2 ((hf_up_ne (fun q => absurd q.1 (by decide))).trans hm) ?_
      refine hr_call (a0 := 14) (b := 66) (e := 2) (nl := 2) (As := [(2, 146)]) (R := []) 17 rfl (by decide +kernel) rfl rfl (Nat.le_of_ble_eq_true rfl) (Nat.le_of_ble_eq_true rfl) ?_
      refine hw_mono H ?_
      rintro r ψ11 y11 ⟨hyx, hr, H⟩
      subst hyx
      subst hr
      refine ⟨hnen, ?_⟩
      show hw sc (d + 1) 95 32 [(0, (2, 108)), (1, (2, 17))] [] ψ11 y11 Q
      refine hw_k (c := 1) (b := 0) (e := 1) (by decide +kernel) ?_
      exact hw_ret (a0 := 0) (e := 1) (by decide +kernel) (Or.inr ⟨rfl, by decide⟩) H
    · have H := H.2.2.2.2.2.1 hm
      refine hr_ala (a0 := 0) (e := 0) (n := 8) (w := 155) 109 rfl (by decide +kernel) hl2 hu2 ((hf_up_ne (fun q => absurd q.1 (by decide))).trans hm) ?_
      refine hr_call (a0 := 14) (b := 66) (e := 2) (nl := 2) (As := [(2, 155)]) (R := []) 17 rfl (by decide +kernel) rfl rfl (Nat.le_of_ble_eq_true rfl) (Nat.le_of_ble_eq_true rfl) ?_
      refine hw_mono H ?_
      rintro r ψ13 y13 ⟨hyx, hr, H⟩
      subst hyx
      subst hr
      refine ⟨hnen, ?_⟩
      show hw sc (d + 1) 95 32 [(0, (2, 108)), (1, (2, 17))] [] ψ13 y13 Q
      refine hw_k (c := 1) (b := 0) (e := 1) (by decide +kernel) ?_
      exact hw_ret (a0 := 0) (e := 1) (by decide +kernel) (Or.inr ⟨rfl, by decide⟩) H
    · have H := H.2.2.2.2.2.2.1 hm
      refine hr_ala (a0 := 0) (e := 0) (n := 8) (w := 164) 109 rfl (by decide +kernel) hl2 hu2 ((hf_up_ne (fun q => absurd q.1 (by decide))).trans hm) ?_
      refine hr_call (a0 := 14) (b := 66) (e := 2) (nl := 2) (As := [(2, 164)]) (R := []) 17 rfl (by decide +kernel) rfl rfl (Nat.le_of_ble_eq_true rfl) (Nat.le_of_ble_eq_true rfl) ?_
      refine hw_mono H ?_
      rintro r ψ15 y15 ⟨hyx, hr, H⟩
      subst hyx
      subst hr
      refine ⟨hnen, ?_⟩
      show hw sc (d + 1) 95 32 [(0, (2, 108)), (1, (2, 17))] [] ψ15 y15 Q
      refine hw_k (c := 1) (b := 0) (e := 1) (by decide +kernel) ?_
      exact hw_ret (a0 := 0) (e := 1) (by decide +kernel) (Or.inr ⟨rfl, by decide⟩) H
    · have H := H.2.2.2.2.2.2.2 hm
      refine hr_ala (a0 := 0) (e := 0) (n := 8) (w := 173) 109 rfl (by decide +kernel) hl2 hu2 ((hf_up_ne (fun q => absurd q.1 (by decide))).trans hm) ?_
      refine hr_call (a0 := 14) (b := 66) (e := 2) (nl := 2) (As := [(2, 173)]) (R := []) 17 rfl (by decide +kernel) rfl rfl (Nat.le_of_ble_eq_true rfl) (Nat.le_of_ble_eq_true rfl) ?_
      refine hw_mono H ?_
      rintro r ψ17 y17 ⟨hyx, hr, H⟩
      subst hyx
      subst hr
      refine ⟨hnen, ?_⟩
      show hw sc (d + 1) 95 32 [(0, (2, 108)), (1, (2, 17))] [] ψ17 y17 Q
      refine hw_k (c := 1) (b := 0) (e := 1) (by decide +kernel) ?_
      exact hw_ret (a0 := 0) (e := 1) (by decide +kernel) (Or.inr ⟨rfl, by decide⟩) H
  · have H := hf1 q
    refine hw_k (c := 0) (b := 0) (e := 1) (by decide +kernel) ?_
    exact hw_ret (a0 := 0) (e := 1) (by decide +kernel) (Or.inr ⟨rfl, by decide⟩) H
theorem sf_95_108_17 {sc : List Int} {d : Nat} {φ : hf_F} {x : Nat} {Q : Option jm_V → hf_F → Nat → Prop}  (hI : Inv φ)  (hQ : ∀ (r : Int) (ψ : hf_F), Inv ψ → Fr [17, 18, 19, 20, 21, 22, 23, 24, 25, 108] φ ψ → 0 ≤ r ∧ r ≤ 1 → Q (some (0, r)) ψ x) : hw sc (d + 1) 95 0 [(0, (2, 108)), (1, (2, 17))] [] φ x Q := by
  apply sf_95_108_17_v
  have f1 := iv_at (a := 108) (k := 1) (lo := 0) (u := 8) hI (by decide +kernel)
  refine ⟨by unfold hi; omega, fun q1 => ?_, fun q1 => ?_⟩
  · skip
    have i2 : Inv (hf_up φ 108 1 ((φ 108 1) - 1)) := iv_up (lo := 0) (u := 8) hI (by decide +kernel) (by omega) (by omega)
    have r2 : Fr [17, 18, 19, 20, 21, 22, 23, 24, 25, 108] φ (hf_up φ 108 1 ((φ 108 1) - 1)) := fr_up (fr_rf) (by decide)
    refine ⟨by omega, by omega, (by rw [← show (hf_up φ 108 1 ((φ 108 1) - 1)) 109 (((φ 108 1) - 1).toNat) = φ 109 (((φ 108 1) - 1).toNat) from (hf_up_ne (fun q => absurd q.1 (by decide)))]; exact iv_bf i2 (by omega) (by omega)), fun qm => ?_, fun qm => ?_, fun qm => ?_, fun qm => ?_, fun qm => ?_, fun qm => ?_, fun qm => ?_, fun qm => ?_⟩
    · skip
      refine sf_66_17_110 (φ := (hf_up φ 108 1 ((φ 108 1) - 1))) i2  (fun ψ3 hI3 hF3 => ⟨rfl, rfl, ?_⟩)
      have hG3 : Fr [17, 18, 19, 20, 21, 22, 23, 24, 25, 108] φ ψ3 := fr_tr r2 hF3 (by decide)
      exact hQ 1 ψ3 hI3 hG3 ⟨by omega, by omega⟩
    · skip
      refine sf_66_17_119 (φ := (hf_up φ 108 1 ((φ 108 1) - 1))) i2  (fun ψ5 hI5 hF5 => ⟨rfl, rfl, ?_⟩)
      have hG5 : Fr [17, 18, 19, 20, 21, 22, 23, 24, 25, 108] φ ψ5 := fr_tr r2 hF5 (by decide)
      exact hQ 1 ψ5 hI5 hG5 ⟨by omega, by omega⟩
    · skip
      refine sf_66_17_128 (φ := (hf_up φ 108 1 ((φ 108 1) - 1))) i2  (fun ψ7 hI7 hF7 => ⟨rfl, rfl, ?_⟩)
      have hG7 : Fr [17, 18, 19, 20, 21, 22, 23, 24, 25, 108] φ ψ7 := fr_tr r2 hF7 (by decide)
      exact hQ 1 ψ7 hI7 hG7 ⟨by omega, by omega⟩
    · skip
      refine sf_66_17_137 (φ := (hf_up φ 108 1 ((φ 108 1) - 1))) i2  (fun ψ9 hI9 hF9 => ⟨rfl, rfl, ?_⟩)
      have hG9 : Fr [17, 18, 19, 20, 21, 22, 23, 24, 25, 108] φ ψ9 := fr_tr r2 hF9 (by decide)
      exact hQ 1 ψ9 hI9 hG9 ⟨by omega, by omega⟩
    · skip
      refine sf_66_17_146 (φ := (hf_up φ 108 1 ((φ 108 1) - 1))) i2  (fun ψ11 hI11 hF11 => ⟨rfl, rfl, ?_⟩)
      have hG11 : Fr [17, 18, 19, 20, 21, 22, 23, 24, 25, 108] φ ψ11 := fr_tr r2 hF11 (by decide)
      exact hQ 1 ψ11 hI11 hG11 ⟨by omega, by omega⟩
    · skip
      refine sf_66_17_155 (φ := (hf_up φ 108 1 ((φ 108 1) - 1))) i2  (fun ψ13 hI13 hF13 => ⟨rfl, rfl, ?_⟩)
      have hG13 : Fr [17, 18, 19, 20, 21, 22, 23, 24, 25, 108] φ ψ13 := fr_tr r2 hF13 (by decide)
      exact hQ 1 ψ13 hI13 hG13 ⟨by omega, by omega⟩
    · skip
      refine sf_66_17_164 (φ := (hf_up φ 108 1 ((φ 108 1) - 1))) i2  (fun ψ15 hI15 hF15 => ⟨rfl, rfl, ?_⟩)
      have hG15 : Fr [17, 18, 19, 20, 21, 22, 23, 24, 25, 108] φ ψ15 := fr_tr r2 hF15 (by decide)
      exact hQ 1 ψ15 hI15 hG15 ⟨by omega, by omega⟩
    · skip
      refine sf_66_17_173 (φ := (hf_up φ 108 1 ((φ 108 1) - 1))) i2  (fun ψ17 hI17 hF17 => ⟨rfl, rfl, ?_⟩)
      have hG17 : Fr [17, 18, 19, 20, 21, 22, 23, 24, 25, 108] φ ψ17 := fr_tr r2 hF17 (by decide)
      exact hQ 1 ψ17 hI17 hG17 ⟨by omega, by omega⟩
  · skip
    exact hQ 0 φ hI (fr_rf) ⟨by omega, by omega⟩
theorem sf_94_0_v {sc : List Int} {d : Nat} {φ : hf_F} {x : Nat} {Q : Option jm_V → hf_F → Nat → Prop} 
    (H : hw sc (d + 1) 95 0 [(0, (2, 108)), (1, (2, 17))] [] φ x (fun r ψ1 y1 => y1 = x ∧ (∃ z1 : Int, r = some (0, z1) ∧ (hi z1 ∧ (¬ z1 = 0 → Q (some (0, ψ1 108 1)) ψ1 x) ∧ (¬ (¬ z1 = 0) → Q (some (0, (-1 : Int))) ψ1 x))))) :
    hw sc (d + 2) 94 0 [(0, (2, 0))] [] φ x Q := by
  refine hw_ald (b := 0) (e := 0) (by decide +kernel) rfl (by decide) ?_
  refine hr_gr (w := 108) (b := 0) (e := 5) 0 rfl (by decide +kernel) ?_
  refine hw_ald (b := 0) (e := 0) (by decide +kernel) rfl (by decide) ?_
  refine hr_gr (w := 4) (b := 0) (e := 1) 0 rfl (by decide +kernel) ?_
  refine hr_gr (w := 17) (b := 2) (e := 1) 4 rfl (by decide +kernel) ?_
  refine hr_call (a0 := 16) (b := 95) (e := 2) (nl := 2) (As := [(2, 17)]) (R := []) 108 rfl (by decide +kernel) rfl rfl (Nat.le_of_ble_eq_true rfl) (Nat.le_of_ble_eq_true rfl) ?_
  refine hw_mono H ?_
  rintro r ψ1 y1 ⟨hyx, z1, hr, H⟩
  subst hyx
  subst hr
  refine ⟨hne0, ?_⟩
  show hw sc (d + 2) 94 14 [(0, (2, 0))] [(0, z1)] ψ1 y1 Q
  obtain ⟨hz2, ht2, hf2⟩ := H
  refine hw_if (a0 := 0) (b := 1) (e := 19) (by decide +kernel) hz2 (fun q => ?_) (fun q => ?_)
  · have H := ht2 q
    refine hw_ald (b := 0) (e := 0) (by decide +kernel) rfl (by decide) ?_
    refine hr_gr (w := 108) (b := 0) (e := 5) 0 rfl (by decide +kernel) ?_
    refine hr_gi (w := ψ1 108 1) (b := 6) (e := 1) 108 rfl (by decide +kernel) rfl ?_
    exact hw_ret (a0 := 0) (e := 0) (by decide +kernel) (Or.inl rfl) H
  · have H := hf2 q
    refine hw_k (c := (-1 : Int)) (b := 0) (e := 1) (by decide +kernel) ?_
    exact hw_ret (a0 := 0) (e := 0) (by decide +kernel) (Or.inl rfl) H
theorem sf_94_0 {sc : List Int} {d : Nat} {φ : hf_F} {x : Nat} {Q : Option jm_V → hf_F → Nat → Prop}  (hI : Inv φ)  (hQ : ∀ (r : Int) (ψ : hf_F), Inv ψ → Fr [17, 18, 19, 20, 21, 22, 23, 24, 25, 108] φ ψ → True → Q (some (0, r)) ψ x) : hw sc (d + 2) 94 0 [(0, (2, 0))] [] φ x Q := by
  apply sf_94_0_v
  refine sf_95_108_17 (φ := φ) hI  (fun z1 ψ1 hI1 hF1 hp1 => ⟨rfl, z1, rfl, ?_⟩)
  have hG1 : Fr [17, 18, 19, 20, 21, 22, 23, 24, 25, 108] φ ψ1 := fr_tr (fr_rf) hF1 (by decide)
  refine ⟨by unfold hi; omega, fun q2 => ?_, fun q2 => ?_⟩
  · skip
    have f1 := iv_at (a := 108) (k := 1) (lo := 0) (u := 8) hI1 (by decide +kernel)
    exact hQ (ψ1 108 1) ψ1 hI1 hG1 trivial
  · skip
    exact hQ (-1 : Int) ψ1 hI1 hG1 trivial
theorem sf_65_83_5_v {sc : List Int} {d : Nat} {φ : hf_F} {x : Nat} {Q : Option jm_V → hf_F → Nat → Prop} 
    (H : Q none (hf_cp (hf_cp (hf_cp (hf_cp (hf_cp (hf_cp (hf_cp (hf_cp (hf_cp (hf_cp (hf_cp φ 6 84 5) 7 85 40) 8 86 3) 9 87 3) 10 88 8) 11 89 8) 12 90 8) 13 91 8) 14 92 8) 15 93 8) 16 94 64) x) :
    hw sc d 65 0 [(0, (2, 83)), (1, (2, 5))] [] φ x Q := by
  refine hw_ald (b := 1) (e := 0) (by decide +kernel) rfl (by decide) ?_
  refine hr_gr (w := 6) (b := 3) (e := 0) 5 rfl (by decide +kernel) ?_
  refine hw_k (c := 0) (b := 0) (e := 1) (by decide +kernel) ?_
  refine hw_ald (b := 0) (e := 0) (by decide +kernel) rfl (by decide) ?_
  refine hr_gr (w := 84) (b := 3) (e := 0) 83 rfl (by decide +kernel) ?_
  refine hw_k (c := 0) (b := 0) (e := 1) (by decide +kernel) ?_
  refine hw_k (c := 5) (b := 0) (e := 1) (by decide +kernel) ?_
  refine hr_cp (a0 := 0) (b0 := 0) (e := 0) 6 84 5 rfl rfl rfl (by decide +kernel) (Nat.le_of_ble_eq_true rfl) ?_
  refine hw_ald (b := 1) (e := 0) (by decide +kernel) rfl (by decide) ?_
  refine hr_gr (w := 7) (b := 3) (e := 1) 5 rfl (by decide +kernel) ?_
  refine hw_k (c := 0) (b := 0) (e := 1) (by decide +kernel) ?_
  refine hw_ald (b := 0) (e := 0) (by decide +kernel) rfl (by decide) ?_
  refine hr_gr (w := 85) (b := 3) (e := 1) 83 rfl (by decide +kernel) ?_
  refine hw_k (c := 0) (b := 0) (e := 1) (by decide +kernel) ?_
  refine hw_k (c := 40) (b := 1) (e := 2) (by decide +kernel) ?_
  refine hr_cp (a0 := 0) (b0 := 0) (e := 0) 7 85 40 rfl rfl rfl (by decide +kernel) (Nat.le_of_ble_eq_true rfl) ?_
  refine hw_ald (b := 1) (e := 0) (by decide +kernel) rfl (by decide) ?_
  refine hr_gr (w := 8) (b := 3) (e := 2) 5 rfl (by decide +kernel) ?_
  refine hw_k (c := 0) (b := 0) (e := 1) (by decide +kernel) ?_
  refine hw_ald (b := 0) (e := 0) (by decide +kernel) rfl (by decide) ?_
  refine hr_gr (w := 86) (b := 3) (e := 2) 83 rfl (by decide +kernel) ?_
  refine hw_k (c := 0) (b := 0) (e := 1) (by decide +kernel) ?_
  refine hw_k (c := 3) (b := 0) (e := 1) (by decide +kernel) ?_
  refine hr_cp (a0 := 0) (b0 := 0) (e := 0) 8 86 3 rfl rfl rfl (by decide +kernel) (Nat.le_of_ble_eq_true rfl) ?_
  refine hw_ald (b := 1) (e := 0) (by decide +kernel) rfl (by decide) ?_
  refine hr_gr (w := 9) (b := 3) (e := 3) 5 rfl (by decide +kernel) ?_
  refine hw_k (c := 0) (b := 0) (e := 1) (by decide +kernel) ?_
  refine hw_ald (b := 0) (e := 0) (by decide +kernel) rfl (by decide) ?_
  refine hr_gr (w := 87) (b := 3) (e := 3) 83 rfl (by decide +kernel) ?_
  refine hw_k (c := 0) (b := 0) (e := 1) (by decide +kernel) ?_
  refine hw_k (c := 3) (b := 0) (e := 1) (by decide +kernel) ?_
  refine hr_cp (a0 := 0) (b0 := 0) (e := 0) 9 87 3 rfl rfl rfl (by decide +kernel) (Nat.le_of_ble_eq_true rfl) ?_
  refine hw_ald (b := 1) (e := 0) (by decide +kernel) rfl (by decide) ?_
  refine hr_gr (w := 10) (b := 3) (e := 4) 5 rfl (by decide +kernel) ?_
  refine hw_k (c := 0) (b := 0) (e := 1) (by decide +kernel) ?_
  refine hw_ald (b := 0) (e := 0) (by decide +kernel) rfl (by decide) ?_
  refine hr_gr (w := 88) (b := 3) (e := 4) 83 rfl (by decide +kernel) ?_
  refine hw_k (c := 0) (b := 0) (e := 1) (by decide +kernel) ?_
  refine hw_k (c := 8) (b := 1) (e := 2) (by decide +kernel) ?_
  refine hr_cp (a0 := 0) (b0 := 0) (e := 0) 10 88 8 rfl rfl rfl (by decide +kernel) (Nat.le_of_ble_eq_true rfl) ?_
  refine hw_ald (b := 1) (e := 0) (by decide +kernel) rfl (by decide) ?_
  refine hr_gr (w := 11) (b := 3) (e := 5) 5 rfl (by decide +kernel) ?_
  refine hw_k (c := 0) (b := 0) (e := 1) (by decide +kernel) ?_
  refine hw_ald (b := 0) (e := 0) (by decide +kernel) rfl (by decide) ?_
  refine hr_gr (w := 89) (b := 3) (e := 5) 83 rfl (by decide +kernel) ?_
  refine hw_k (c := 0) (b := 0) (e := 1) (by decide +kernel) ?_
  refine hw_k (c := 8) (b := 1) (e := 2) (by decide +kernel) ?_
  refine hr_cp (a0 := 0) (b0 := 0) (e := 0) 11 89 8 rfl rfl rfl (by decide +kernel) (Nat.le_of_ble_eq_true rfl) ?_
  refine hw_ald (b := 1) (e := 0) (by decide +kernel) rfl (by decide) ?_
  refine hr_gr (w := 12) (b := 3) (e := 6) 5 rfl (by decide +kernel) ?_
  refine hw_k (c := 0) (b := 0) (e := 1) (by decide +kernel) ?_
  refine hw_ald (b := 0) (e := 0) (by decide +kernel) rfl (by decide) ?_
  refine hr_gr (w := 90) (b := 3) (e := 6) 83 rfl (by decide +kernel) ?_
  refine hw_k (c := 0) (b := 0) (e := 1) (by decide +kernel) ?_
  refine hw_k (c := 8) (b := 1) (e := 2) (by decide +kernel) ?_
  refine hr_cp (a0 := 0) (b0 := 0) (e := 0) 12 90 8 rfl rfl rfl (by decide +kernel) (Nat.le_of_ble_eq_true rfl) ?_
  refine hw_ald (b := 1) (e := 0) (by decide +kernel) rfl (by decide) ?_
  refine hr_gr (w := 13) (b := 3) (e := 7) 5 rfl (by decide +kernel) ?_
  refine hw_k (c := 0) (b := 0) (e := 1) (by decide +kernel) ?_
  refine hw_ald (b := 0) (e := 0) (by decide +kernel) rfl (by decide) ?_
  refine hr_gr (w := 91) (b := 3) (e := 7) 83 rfl (by decide +kernel) ?_
  refine hw_k (c := 0) (b := 0) (e := 1) (by decide +kernel) ?_
  refine hw_k (c := 8) (b := 1) (e := 2) (by decide +kernel) ?_
  refine hr_cp (a0 := 0) (b0 := 0) (e := 0) 13 91 8 rfl rfl rfl (by decide +kernel) (Nat.le_of_ble_eq_true rfl) ?_
  refine hw_ald (b := 1) (e := 0) (by decide +kernel) rfl (by decide) ?_
  refine hr_gr (w := 14) (b := 3) (e := 8) 5 rfl (by decide +kernel) ?_
  refine hw_k (c := 0) (b := 0) (e := 1) (by decide +kernel) ?_
  refine hw_ald (b := 0) (e := 0) (by decide +kernel) rfl (by decide) ?_
  refine hr_gr (w := 92) (b := 3) (e := 8) 83 rfl (by decide +kernel) ?_
  refine hw_k (c := 0) (b := 0) (e := 1) (by decide +kernel) ?_
  refine hw_k (c := 8) (b := 1) (e := 2) (by decide +kernel) ?_
  refine hr_cp (a0 := 0) (b0 := 0) (e := 0) 14 92 8 rfl rfl rfl (by decide +kernel) (Nat.le_of_ble_eq_true rfl) ?_
  refine hw_ald (b := 1) (e := 0) (by decide +kernel) rfl (by decide) ?_
  refine hr_gr (w := 15) (b := 3) (e := 9) 5 rfl (by decide +kernel) ?_
  refine hw_k (c := 0) (b := 0) (e := 1) (by decide +kernel) ?_
  refine hw_ald (b := 0) (e := 0) (by decide +kernel) rfl (by decide) ?_
  refine hr_gr (w := 93) (b := 3) (e := 9) 83 rfl (by decide +kernel) ?_
  refine hw_k (c := 0) (b := 0) (e := 1) (by decide +kernel) ?_
  refine hw_k (c := 8) (b := 1) (e := 2) (by decide +kernel) ?_
  refine hr_cp (a0 := 0) (b0 := 0) (e := 0) 15 93 8 rfl rfl rfl (by decide +kernel) (Nat.le_of_ble_eq_true rfl) ?_
  refine hw_ald (b := 1) (e := 0) (by decide +kernel) rfl (by decide) ?_
  refine hr_gr (w := 16) (b := 3) (e := 10) 5 rfl (by decide +kernel) ?_
  refine hw_k (c := 0) (b := 0) (e := 1) (by decide +kernel) ?_
  refine hw_ald (b := 0) (e := 0) (by decide +kernel) rfl (by decide) ?_
  refine hr_gr (w := 94) (b := 3) (e := 10) 83 rfl (by decide +kernel) ?_
  refine hw_k (c := 0) (b := 0) (e := 1) (by decide +kernel) ?_
  refine hw_k (c := 64) (b := 1) (e := 2) (by decide +kernel) ?_
  refine hr_cp (a0 := 0) (b0 := 0) (e := 0) 16 94 64 rfl rfl rfl (by decide +kernel) (Nat.le_of_ble_eq_true rfl) ?_
  exact hw_vret (a0 := 0) (e := 0) (by decide +kernel) H
theorem sf_65_83_5 {sc : List Int} {d : Nat} {φ : hf_F} {x : Nat} {Q : Option jm_V → hf_F → Nat → Prop}  (hI : Inv φ)  (hQ : ∀ ψ : hf_F, Inv ψ → Fr [84, 85, 86, 87, 88, 89, 90, 91, 92, 93, 94] φ ψ → Q none ψ x) : hw sc d 65 0 [(0, (2, 83)), (1, (2, 5))] [] φ x Q := by
  apply sf_65_83_5_v
  have i1 : Inv (hf_cp φ 6 84 5) := iv_cp hI (by decide) (by decide +kernel)
  have r1 : Fr [84, 85, 86, 87, 88, 89, 90, 91, 92, 93, 94] φ (hf_cp φ 6 84 5) := fr_cp (fr_rf) (by decide)
  have i2 : Inv (hf_cp (hf_cp φ 6 84 5) 7 85 40) := iv_cp i1 (by decide) (by decide +kernel)
  have r2 : Fr [84, 85, 86, 87, 88, 89, 90, 91, 92, 93, 94] φ (hf_cp (hf_cp φ 6 84 5) 7 85 40) := fr_cp r1 (by decide)
  have i3 : Inv (hf_cp (hf_cp (hf_cp φ 6 84 5) 7 85 40) 8 86 3) := iv_cp i2 (by decide) (by decide +kernel)
  have r3 : Fr [84, 85, 86, 87, 88, 89, 90, 91, 92, 93, 94] φ (hf_cp (hf_cp (hf_cp φ 6 84 5) 7 85 40) 8 86 3) := fr_cp r2 (by decide)
  have i4 : Inv (hf_cp (hf_cp (hf_cp (hf_cp φ 6 84 5) 7 85 40) 8 86 3) 9 87 3) := iv_cp i3 (by decide) (by decide +kernel)
  have r4 : Fr [84, 85, 86, 87, 88, 89, 90, 91, 92, 93, 94] φ (hf_cp (hf_cp (hf_cp (hf_cp φ 6 84 5) 7 85 40) 8 86 3) 9 87 3) := fr_cp r3 (by decide)
  have i5 : Inv (hf_cp (hf_cp (hf_cp (hf_cp (hf_cp φ 6 84 5) 7 85 40) 8 86 3) 9 87 3) 10 88 8) := iv_cp i4 (by decide) (by decide +kernel)
  have r5 : Fr [84, 85, 86, 87, 88, 89, 90, 91, 92, 93, 94] φ (hf_cp (hf_cp (hf_cp (hf_cp (hf_cp φ 6 84 5) 7 85 40) 8 86 3) 9 87 3) 10 88 8) := fr_cp r4 (by decide)
  have i6 : Inv (hf_cp (hf_cp (hf_cp (hf_cp (hf_cp (hf_cp φ 6 84 5) 7 85 40) 8 86 3) 9 87 3) 10 88 8) 11 89 8) := iv_cp i5 (by decide) (by decide +kernel)
  have r6 : Fr [84, 85, 86, 87, 88, 89, 90, 91, 92, 93, 94] φ (hf_cp (hf_cp (hf_cp (hf_cp (hf_cp (hf_cp φ 6 84 5) 7 85 40) 8 86 3) 9 87 3) 10 88 8) 11 89 8) := fr_cp r5 (by decide)
  have i7 : Inv (hf_cp (hf_cp (hf_cp (hf_cp (hf_cp (hf_cp (hf_cp φ 6 84 5) 7 85 40) 8 86 3) 9 87 3) 10 88 8) 11 89 8) 12 90 8) := iv_cp i6 (by decide) (by decide +kernel)
  have r7 : Fr [84, 85, 86, 87, 88, 89, 90, 91, 92, 93, 94] φ (hf_cp (hf_cp (hf_cp (hf_cp (hf_cp (hf_cp (hf_cp φ 6 84 5) 7 85 40) 8 86 3) 9 87 3) 10 88 8) 11 89 8) 12 90 8) := fr_cp r6 (by decide)
  have i8 : Inv (hf_cp (hf_cp (hf_cp (hf_cp (hf_cp (hf_cp (hf_cp (hf_cp φ 6 84 5) 7 85 40) 8 86 3) 9 87 3) 10 88 8) 11 89 8) 12 90 8) 13 91 8) := iv_cp i7 (by decide) (by decide +kernel)
  have r8 : Fr [84, 85, 86, 87, 88, 89, 90, 91, 92, 93, 94] φ (hf_cp (hf_cp (hf_cp (hf_cp (hf_cp (hf_cp (hf_cp (hf_cp φ 6 84 5) 7 85 40) 8 86 3) 9 87 3) 10 88 8) 11 89 8) 12 90 8) 13 91 8) := fr_cp r7 (by decide)
  have i9 : Inv (hf_cp (hf_cp (hf_cp (hf_cp (hf_cp (hf_cp (hf_cp (hf_cp (hf_cp φ 6 84 5) 7 85 40) 8 86 3) 9 87 3) 10 88 8) 11 89 8) 12 90 8) 13 91 8) 14 92 8) := iv_cp i8 (by decide) (by decide +kernel)
  have r9 : Fr [84, 85, 86, 87, 88, 89, 90, 91, 92, 93, 94] φ (hf_cp (hf_cp (hf_cp (hf_cp (hf_cp (hf_cp (hf_cp (hf_cp (hf_cp φ 6 84 5) 7 85 40) 8 86 3) 9 87 3) 10 88 8) 11 89 8) 12 90 8) 13 91 8) 14 92 8) := fr_cp r8 (by decide)
  have i10 : Inv (hf_cp (hf_cp (hf_cp (hf_cp (hf_cp (hf_cp (hf_cp (hf_cp (hf_cp (hf_cp φ 6 84 5) 7 85 40) 8 86 3) 9 87 3) 10 88 8) 11 89 8) 12 90 8) 13 91 8) 14 92 8) 15 93 8) := iv_cp i9 (by decide) (by decide +kernel)
  have r10 : Fr [84, 85, 86, 87, 88, 89, 90, 91, 92, 93, 94] φ (hf_cp (hf_cp (hf_cp (hf_cp (hf_cp (hf_cp (hf_cp (hf_cp (hf_cp (hf_cp φ 6 84 5) 7 85 40) 8 86 3) 9 87 3) 10 88 8) 11 89 8) 12 90 8) 13 91 8) 14 92 8) 15 93 8) := fr_cp r9 (by decide)
  have i11 : Inv (hf_cp (hf_cp (hf_cp (hf_cp (hf_cp (hf_cp (hf_cp (hf_cp (hf_cp (hf_cp (hf_cp φ 6 84 5) 7 85 40) 8 86 3) 9 87 3) 10 88 8) 11 89 8) 12 90 8) 13 91 8) 14 92 8) 15 93 8) 16 94 64) := iv_cp i10 (by decide) (by decide +kernel)
  have r11 : Fr [84, 85, 86, 87, 88, 89, 90, 91, 92, 93, 94] φ (hf_cp (hf_cp (hf_cp (hf_cp (hf_cp (hf_cp (hf_cp (hf_cp (hf_cp (hf_cp (hf_cp φ 6 84 5) 7 85 40) 8 86 3) 9 87 3) 10 88 8) 11 89 8) 12 90 8) 13 91 8) 14 92 8) 15 93 8) 16 94 64) := fr_cp r10 (by decide)
  exact hQ (hf_cp (hf_cp (hf_cp (hf_cp (hf_cp (hf_cp (hf_cp (hf_cp (hf_cp (hf_cp (hf_cp φ 6 84 5) 7 85 40) 8 86 3) 9 87 3) 10 88 8) 11 89 8) 12 90 8) 13 91 8) 14 92 8) 15 93 8) 16 94 64) i11 r11
theorem sf_66_95_17_v {sc : List Int} {d : Nat} {φ : hf_F} {x : Nat} {Q : Option jm_V → hf_F → Nat → Prop} 
    (H : Q none (hf_cp (hf_cp (hf_cp (hf_cp (hf_cp (hf_cp (hf_cp (hf_cp (hf_up (hf_up (hf_up (hf_up (hf_up (hf_up φ 95 0 (φ 17 0)) 95 1 (φ 17 1)) 95 2 (φ 17 2)) 95 3 (φ 17 3)) 95 4 (φ 17 4)) 95 5 (φ 17 5)) 18 96 8) 19 97 8) 20 98 6) 21 99 6) 22 100 36) 23 101 6) 24 102 6) 25 103 8) x) :
    hw sc d 66 0 [(0, (2, 95)), (1, (2, 17))] [] φ x Q := by
  refine hw_ald (b := 0) (e := 0) (by decide +kernel) rfl (by decide) ?_
  refine hw_ald (b := 1) (e := 0) (by decide +kernel) rfl (by decide) ?_
  refine hr_gi (w := φ 17 0) (b := 4) (e := 0) 17 rfl (by decide +kernel) rfl ?_
  refine hr_pi (b := 4) (e := 0) 95 rfl (by decide +kernel) ?_
  refine hw_ald (b := 0) (e := 0) (by decide +kernel) rfl (by decide) ?_
  refine hw_ald (b := 1) (e := 0) (by decide +kernel) rfl (by decide) ?_
  refine hr_gi (w := φ 17 1) (b := 4) (e := 1) 17 rfl (by decide +kernel) (hf_up_ne (fun q => absurd q.1 (by decide))) ?_
  refine hr_pi (b := 4) (e := 1) 95 rfl (by decide +kernel) ?_
  refine hw_ald (b := 0) (e := 0) (by decide +kernel) rfl (by decide) ?_
  refine hw_ald (b := 1) (e := 0) (by decide +kernel) rfl (by decide) ?_
  refine hr_gi (w := φ 17 2) (b := 4) (e := 2) 17 rfl (by decide +kernel) ((hf_up_ne (fun q => absurd q.1 (by decide))).trans (hf_up_ne (fun q => absurd q.1 (by decide)))) ?_
  refine hr_pi (b := 4) (e := 2) 95 rfl (by decide +kernel) ?_
  refine hw_ald (b := 0) (e := 0) (by decide +kernel) rfl (by decide) ?_
  refine hw_ald (b := 1) (e := 0) (by decide +kernel) rfl (by decide) ?_
  refine hr_gi (w := φ 17 3) (b := 4) (e := 3) 17 rfl (by decide +kernel) ((hf_up_ne (fun q => absurd q.1 (by decide))).trans ((hf_up_ne (fun q => absurd q.1 (by decide))).trans (hf_up_ne (fun q => absurd q.1 (by decide))))) ?_
  refine hr_pi (b := 4) (e := 3) 95 rfl (by decide +kernel) ?_
  refine hw_ald (b := 0) (e := 0) (by decide +kernel) rfl (by decide) ?_
  refine hw_ald (b := 1) (e := 0) (by decide +kernel) rfl (by decide) ?_
  refine hr_gi (w := φ 17 4) (b := 4) (e := 4) 17 rfl (by decide +kernel) ((hf_up_ne (fun q => absurd q.1 (by decide))).trans ((hf_up_ne (fun q => absurd q.1 (by decide))).trans ((hf_up_ne (fun q => absurd q.1 (by decide))).trans (hf_up_ne (fun q => absurd q.1 (by decide)))))) ?_
  refine hr_pi (b := 4) (e := 4) 95 rfl (by decide +kernel) ?_
  refine hw_ald (b := 0) (e := 0) (by decide +kernel) rfl (by decide) ?_
  refine hw_ald (b := 1) (e := 0) (by decide +kernel) rfl (by decide) ?_
  refine hr_gi (w := φ 17 5) (b := 4) (e := 5) 17 rfl (by decide +kernel) ((hf_up_ne (fun q => absurd q.1 (by decide))).trans ((hf_up_ne (fun q => absurd q.1 (by decide))).trans ((hf_up_ne (fun q => absurd q.1 (by decide))).trans ((hf_up_ne (fun q => absurd q.1 (by decide))).trans (hf_up_ne (fun q => absurd q.1 (by decide))))))) ?_
  refine hr_pi (b := 4) (e := 5) 95 rfl (by decide +kernel) ?_
  refine hw_ald (b := 1) (e := 0) (by decide +kernel) rfl (by decide) ?_
  refine hr_gr (w := 18) (b := 4) (e := 6) 17 rfl (by decide +kernel) ?_
  refine hw_k (c := 0) (b := 0) (e := 1) (by decide +kernel) ?_
  refine hw_ald (b := 0) (e := 0) (by decide +kernel) rfl (by decide) ?_
  refine hr_gr (w := 96) (b := 4) (e := 6) 95 rfl (by decide +kernel) ?_
  refine hw_k (c := 0) (b := 0) (e := 1) (by decide +kernel) ?_
  refine hw_k (c := 8) (b := 1) (e := 2) (by decide +kernel) ?_
  refine hr_cp (a0 := 0) (b0 := 0) (e := 0) 18 96 8 rfl rfl rfl (by decide +kernel) (Nat.le_of_ble_eq_true rfl) ?_
  refine hw_ald (b := 1) (e := 0) (by decide +kernel) rfl (by decide) ?_
  refine hr_gr (w := 19) (b := 4) (e := 7) 17 rfl (by decide +kernel) ?_
  refine hw_k (c := 0) (b := 0) (e := 1) (by decide +kernel) ?_
  refine hw_ald (b := 0) (e := 0) (by decide +kernel) rfl (by decide) ?_
  refine hr_gr (w := 97) (b := 4) (e := 7) 95 rfl (by decide +kernel) ?_
  refine hw_k (c := 0) (b := 0) (e := 1) (by decide +kernel) ?_
  refine hw_k (c := 8) (b := 1) (e := 2) (by decide +kernel) ?_
  refine hr_cp (a0 := 0) (b0 := 0) (e := 0) 19 97 8 rfl rfl rfl (by decide +kernel) (Nat.le_of_ble_eq_true rfl) ?_
  refine hw_ald (b := 1) (e := 0) (by decide +kernel) rfl (by decide) ?_
  refine hr_gr (w := 20) (b := 4) (e := 8) 17 rfl (by decide +kernel) ?_
  refine hw_k (c := 0) (b := 0) (e := 1) (by decide +kernel) ?_
  refine hw_ald (b := 0) (e := 0) (by decide +kernel) rfl (by decide) ?_
  refine hr_gr (w := 98) (b := 4) (e := 8) 95 rfl (by decide +kernel) ?_
  refine hw_k (c := 0) (b := 0) (e := 1) (by decide +kernel) ?_
  refine hw_k (c := 6) (b := 1) (e := 2) (by decide +kernel) ?_
  refine hr_cp (a0 := 0) (b0 := 0) (e := 0) 20 98 6 rfl rfl rfl (by decide +kernel) (Nat.le_of_ble_eq_true rfl) ?_
  refine hw_ald (b := 1) (e := 0) (by decide +kernel) rfl (by decide) ?_
  refine hr_gr (w := 21) (b := 4) (e := 9) 17 rfl (by decide +kernel) ?_
  refine hw_k (c := 0) (b := 0) (e := 1) (by decide +kernel) ?_
  refine hw_ald (b := 0) (e := 0) (by decide +kernel) rfl (by decide) ?_
  refine hr_gr (w := 99) (b := 4) (e := 9) 95 rfl (by decide +kernel) ?_
  refine hw_k (c := 0) (b := 0) (e := 1) (by decide +kernel) ?_
  refine hw_k (c := 6) (b := 1) (e := 2) (by decide +kernel) ?_
  refine hr_cp (a0 := 0) (b0 := 0) (e := 0) 21 99 6 rfl rfl rfl (by decide +kernel) (Nat.le_of_ble_eq_true rfl) ?_
  refine hw_ald (b := 1) (e := 0) (by decide +kernel) rfl (by decide) ?_
  refine hr_gr (w := 22) (b := 4) (e := 10) 17 rfl (by decide +kernel) ?_
  refine hw_k (c := 0) (b := 0) (e := 1) (by decide +kernel) ?_
  refine hw_ald (b := 0) (e := 0) (by decide +kernel) rfl (by decide) ?_
  refine hr_gr (w := 100) (b := 4) (e := 10) 95 rfl (by decide +kernel) ?_
  refine hw_k (c := 0) (b := 0) (e := 1) (by decide +kernel) ?_
  refine hw_k (c := 36) (b := 1) (e := 2) (by decide +kernel) ?_
  refine hr_cp (a0 := 0) (b0 := 0) (e := 0) 22 100 36 rfl rfl rfl (by decide +kernel) (Nat.le_of_ble_eq_true rfl) ?_
  refine hw_ald (b := 1) (e := 0) (by decide +kernel) rfl (by decide) ?_
  refine hr_gr (w := 23) (b := 4) (e := 11) 17 rfl (by decide +kernel) ?_
  refine hw_k (c := 0) (b := 0) (e := 1) (by decide +kernel) ?_
  refine hw_ald (b := 0) (e := 0) (by decide +kernel) rfl (by decide) ?_
  refine hr_gr (w := 101) (b := 4) (e := 11) 95 rfl (by decide +kernel) ?_
  refine hw_k (c := 0) (b := 0) (e := 1) (by decide +kernel) ?_
  refine hw_k (c := 6) (b := 1) (e := 2) (by decide +kernel) ?_
  refine hr_cp (a0 := 0) (b0 := 0) (e := 0) 23 101 6 rfl rfl rfl (by decide +kernel) (Nat.le_of_ble_eq_true rfl) ?_
  refine hw_ald (b := 1) (e := 0) (by decide +kernel) rfl (by decide) ?_
  refine hr_gr (w := 24) (b := 4) (e := 12) 17 rfl (by decide +kernel) ?_
  refine hw_k (c := 0) (b := 0) (e := 1) (by decide +kernel) ?_
  refine hw_ald (b := 0) (e := 0) (by decide +kernel) rfl (by decide) ?_
  refine hr_gr (w := 102) (b := 4) (e := 12) 95 rfl (by decide +kernel) ?_
  refine hw_k (c := 0) (b := 0) (e := 1) (by decide +kernel) ?_
  refine hw_k (c := 6) (b := 1) (e := 2) (by decide +kernel) ?_
  refine hr_cp (a0 := 0) (b0 := 0) (e := 0) 24 102 6 rfl rfl rfl (by decide +kernel) (Nat.le_of_ble_eq_true rfl) ?_
  refine hw_ald (b := 1) (e := 0) (by decide +kernel) rfl (by decide) ?_
  refine hr_gr (w := 25) (b := 4) (e := 13) 17 rfl (by decide +kernel) ?_
  refine hw_k (c := 0) (b := 0) (e := 1) (by decide +kernel) ?_
  refine hw_ald (b := 0) (e := 0) (by decide +kernel) rfl (by decide) ?_
  refine hr_gr (w := 103) (b := 4) (e := 13) 95 rfl (by decide +kernel) ?_
  refine hw_k (c := 0) (b := 0) (e := 1) (by decide +kernel) ?_
  refine hw_k (c := 8) (b := 1) (e := 2) (by decide +kernel) ?_
  refine hr_cp (a0 := 0) (b0 := 0) (e := 0) 25 103 8 rfl rfl rfl (by decide +kernel) (Nat.le_of_ble_eq_true rfl) ?_
  exact hw_vret (a0 := 0) (e := 0) (by decide +kernel) H
theorem sf_66_95_17 {sc : List Int} {d : Nat} {φ : hf_F} {x : Nat} {Q : Option jm_V → hf_F → Nat → Prop}  (hI : Inv φ)  (hQ : ∀ ψ : hf_F, Inv ψ → Fr [95, 96, 97, 98, 99, 100, 101, 102, 103] φ ψ → Q none ψ x) : hw sc d 66 0 [(0, (2, 95)), (1, (2, 17))] [] φ x Q := by
  apply sf_66_95_17_v
  have i1 : Inv (hf_up φ 95 0 (φ 17 0)) := iv_upn hI (by decide) (by decide +kernel)
  have r1 : Fr [95, 96, 97, 98, 99, 100, 101, 102, 103] φ (hf_up φ 95 0 (φ 17 0)) := fr_up (fr_rf) (by decide)
  have f2 := iv_at (a := 17) (k := 1) (lo := (-1 : Int)) (u := 7) hI (by decide +kernel)
  have i3 : Inv (hf_up (hf_up φ 95 0 (φ 17 0)) 95 1 (φ 17 1)) := iv_up (lo := (-1 : Int)) (u := 7) i1 (by decide +kernel) (by omega) (by omega)
  have r3 : Fr [95, 96, 97, 98, 99, 100, 101, 102, 103] φ (hf_up (hf_up φ 95 0 (φ 17 0)) 95 1 (φ 17 1)) := fr_up r1 (by decide)
  have f4 := iv_at (a := 17) (k := 2) (lo := (-1 : Int)) (u := 5) hI (by decide +kernel)
  have i5 : Inv (hf_up (hf_up (hf_up φ 95 0 (φ 17 0)) 95 1 (φ 17 1)) 95 2 (φ 17 2)) := iv_up (lo := (-1 : Int)) (u := 5) i3 (by decide +kernel) (by omega) (by omega)
  have r5 : Fr [95, 96, 97, 98, 99, 100, 101, 102, 103] φ (hf_up (hf_up (hf_up φ 95 0 (φ 17 0)) 95 1 (φ 17 1)) 95 2 (φ 17 2)) := fr_up r3 (by decide)
  have f6 := iv_at (a := 17) (k := 3) (lo := (-2147483648 : Int)) (u := 2147483647) hI (by decide +kernel)
  have i7 : Inv (hf_up (hf_up (hf_up (hf_up φ 95 0 (φ 17 0)) 95 1 (φ 17 1)) 95 2 (φ 17 2)) 95 3 (φ 17 3)) := iv_up (lo := (-2147483648 : Int)) (u := 2147483647) i5 (by decide +kernel) (by omega) (by omega)
  have r7 : Fr [95, 96, 97, 98, 99, 100, 101, 102, 103] φ (hf_up (hf_up (hf_up (hf_up φ 95 0 (φ 17 0)) 95 1 (φ 17 1)) 95 2 (φ 17 2)) 95 3 (φ 17 3)) := fr_up r5 (by decide)
  have i8 : Inv (hf_up (hf_up (hf_up (hf_up (hf_up φ 95 0 (φ 17 0)) 95 1 (φ 17 1)) 95 2 (φ 17 2)) 95 3 (φ 17 3)) 95 4 (φ 17 4)) := iv_upn i7 (by decide) (by decide +kernel)
  have r8 : Fr [95, 96, 97, 98, 99, 100, 101, 102, 103] φ (hf_up (hf_up (hf_up (hf_up (hf_up φ 95 0 (φ 17 0)) 95 1 (φ 17 1)) 95 2 (φ 17 2)) 95 3 (φ 17 3)) 95 4 (φ 17 4)) := fr_up r7 (by decide)
  have i9 : Inv (hf_up (hf_up (hf_up (hf_up (hf_up (hf_up φ 95 0 (φ 17 0)) 95 1 (φ 17 1)) 95 2 (φ 17 2)) 95 3 (φ 17 3)) 95 4 (φ 17 4)) 95 5 (φ 17 5)) := iv_upn i8 (by decide) (by decide +kernel)
  have r9 : Fr [95, 96, 97, 98, 99, 100, 101, 102, 103] φ (hf_up (hf_up (hf_up (hf_up (hf_up (hf_up φ 95 0 (φ 17 0)) 95 1 (φ 17 1)) 95 2 (φ 17 2)) 95 3 (φ 17 3)) 95 4 (φ 17 4)) 95 5 (φ 17 5)) := fr_up r8 (by decide)
  have i10 : Inv (hf_cp (hf_up (hf_up (hf_up (hf_up (hf_up (hf_up φ 95 0 (φ 17 0)) 95 1 (φ 17 1)) 95 2 (φ 17 2)) 95 3 (φ 17 3)) 95 4 (φ 17 4)) 95 5 (φ 17 5)) 18 96 8) := iv_cp i9 (by decide) (by decide +kernel)
  have r10 : Fr [95, 96, 97, 98, 99, 100, 101, 102, 103] φ (hf_cp (hf_up (hf_up (hf_up (hf_up (hf_up (hf_up φ 95 0 (φ 17 0)) 95 1 (φ 17 1)) 95 2 (φ 17 2)) 95 3 (φ 17 3)) 95 4 (φ 17 4)) 95 5 (φ 17 5)) 18 96 8) := fr_cp r9 (by decide)
  have i11 : Inv (hf_cp (hf_cp (hf_up (hf_up (hf_up (hf_up (hf_up (hf_up φ 95 0 (φ 17 0)) 95 1 (φ 17 1)) 95 2 (φ 17 2)) 95 3 (φ 17 3)) 95 4 (φ 17 4)) 95 5 (φ 17 5)) 18 96 8) 19 97 8) := iv_cp i10 (by decide) (by decide +kernel)
  have r11 : Fr [95, 96, 97, 98, 99, 100, 101, 102, 103] φ (hf_cp (hf_cp (hf_up (hf_up (hf_up (hf_up (hf_up (hf_up φ 95 0 (φ 17 0)) 95 1 (φ 17 1)) 95 2 (φ 17 2)) 95 3 (φ 17 3)) 95 4 (φ 17 4)) 95 5 (φ 17 5)) 18 96 8) 19 97 8) := fr_cp r10 (by decide)
  have i12 : Inv (hf_cp (hf_cp (hf_cp (hf_up (hf_up (hf_up (hf_up (hf_up (hf_up φ 95 0 (φ 17 0)) 95 1 (φ 17 1)) 95 2 (φ 17 2)) 95 3 (φ 17 3)) 95 4 (φ 17 4)) 95 5 (φ 17 5)) 18 96 8) 19 97 8) 20 98 6) := iv_cp i11 (by decide) (by decide +kernel)
  have r12 : Fr [95, 96, 97, 98, 99, 100, 101, 102, 103] φ (hf_cp (hf_cp (hf_cp (hf_up (hf_up (hf_up (hf_up (hf_up (hf_up φ 95 0 (φ 17 0)) 95 1 (φ 17 1)) 95 2 (φ 17 2)) 95 3 (φ 17 3)) 95 4 (φ 17 4)) 95 5 (φ 17 5)) 18 96 8) 19 97 8) 20 98 6) := fr_cp r11 (by decide)
  have i13 : Inv (hf_cp (hf_cp (hf_cp (hf_cp (hf_up (hf_up (hf_up (hf_up (hf_up (hf_up φ 95 0 (φ 17 0)) 95 1 (φ 17 1)) 95 2 (φ 17 2)) 95 3 (φ 17 3)) 95 4 (φ 17 4)) 95 5 (φ 17 5)) 18 96 8) 19 97 8) 20 98 6) 21 99 6) := iv_cp i12 (by decide) (by decide +kernel)
  have r13 : Fr [95, 96, 97, 98, 99, 100, 101, 102, 103] φ (hf_cp (hf_cp (hf_cp (hf_cp (hf_up (hf_up (hf_up (hf_up (hf_up (hf_up φ 95 0 (φ 17 0)) 95 1 (φ 17 1)) 95 2 (φ 17 2)) 95 3 (φ 17 3)) 95 4 (φ 17 4)) 95 5 (φ 17 5)) 18 96 8) 19 97 8) 20 98 6) 21 99 6) := fr_cp r12 (by decide)
  have i14 : Inv (hf_cp (hf_cp (hf_cp (hf_cp (hf_cp (hf_up (hf_up (hf_up (hf_up (hf_up (hf_up φ 95 0 (φ 17 0)) 95 1 (φ 17 1)) 95 2 (φ 17 2)) 95 3 (φ 17 3)) 95 4 (φ 17 4)) 95 5 (φ 17 5)) 18 96 8) 19 97 8) 20 98 6) 21 99 6) 22 100 36) := iv_cp i13 (by decide) (by decide +kernel)
  have r14 : Fr [95, 96, 97, 98, 99, 100, 101, 102, 103] φ (hf_cp (hf_cp (hf_cp (hf_cp (hf_cp (hf_up (hf_up (hf_up (hf_up (hf_up (hf_up φ 95 0 (φ 17 0)) 95 1 (φ 17 1)) 95 2 (φ 17 2)) 95 3 (φ 17 3)) 95 4 (φ 17 4)) 95 5 (φ 17 5)) 18 96 8) 19 97 8) 20 98 6) 21 99 6) 22 100 36) := fr_cp r13 (by decide)
  have i15 : Inv (hf_cp (hf_cp (hf_cp (hf_cp (hf_cp (hf_cp (hf_up (hf_up (hf_up (hf_up (hf_up (hf_up φ 95 0 (φ 17 0)) 95 1 (φ 17 1)) 95 2 (φ 17 2)) 95 3 (φ 17 3)) 95 4 (φ 17 4)) 95 5 (φ 17 5)) 18 96 8) 19 97 8) 20 98 6) 21 99 6) 22 100 36) 23 101 6) := iv_cp i14 (by decide) (by decide +kernel)
  have r15 : Fr [95, 96, 97, 98, 99, 100, 101, 102, 103] φ (hf_cp (hf_cp (hf_cp (hf_cp (hf_cp (hf_cp (hf_up (hf_up (hf_up (hf_up (hf_up (hf_up φ 95 0 (φ 17 0)) 95 1 (φ 17 1)) 95 2 (φ 17 2)) 95 3 (φ 17 3)) 95 4 (φ 17 4)) 95 5 (φ 17 5)) 18 96 8) 19 97 8) 20 98 6) 21 99 6) 22 100 36) 23 101 6) := fr_cp r14 (by decide)
  have i16 : Inv (hf_cp (hf_cp (hf_cp (hf_cp (hf_cp (hf_cp (hf_cp (hf_up (hf_up (hf_up (hf_up (hf_up (hf_up φ 95 0 (φ 17 0)) 95 1 (φ 17 1)) 95 2 (φ 17 2)) 95 3 (φ 17 3)) 95 4 (φ 17 4)) 95 5 (φ 17 5)) 18 96 8) 19 97 8) 20 98 6) 21 99 6) 22 100 36) 23 101 6) 24 102 6) := iv_cp i15 (by decide) (by decide +kernel)
  have r16 : Fr [95, 96, 97, 98, 99, 100, 101, 102, 103] φ (hf_cp (hf_cp (hf_cp (hf_cp (hf_cp (hf_cp (hf_cp (hf_up (hf_up (hf_up (hf_up (hf_up (hf_up φ 95 0 (φ 17 0)) 95 1 (φ 17 1)) 95 2 (φ 17 2)) 95 3 (φ 17 3)) 95 4 (φ 17 4)) 95 5 (φ 17 5)) 18 96 8) 19 97 8) 20 98 6) 21 99 6) 22 100 36) 23 101 6) 24 102 6) := fr_cp r15 (by decide)
  have i17 : Inv (hf_cp (hf_cp (hf_cp (hf_cp (hf_cp (hf_cp (hf_cp (hf_cp (hf_up (hf_up (hf_up (hf_up (hf_up (hf_up φ 95 0 (φ 17 0)) 95 1 (φ 17 1)) 95 2 (φ 17 2)) 95 3 (φ 17 3)) 95 4 (φ 17 4)) 95 5 (φ 17 5)) 18 96 8) 19 97 8) 20 98 6) 21 99 6) 22 100 36) 23 101 6) 24 102 6) 25 103 8) := iv_cp i16 (by decide) (by decide +kernel)
  have r17 : Fr [95, 96, 97, 98, 99, 100, 101, 102, 103] φ (hf_cp (hf_cp (hf_cp (hf_cp (hf_cp (hf_cp (hf_cp (hf_cp (hf_up (hf_up (hf_up (hf_up (hf_up (hf_up φ 95 0 (φ 17 0)) 95 1 (φ 17 1)) 95 2 (φ 17 2)) 95 3 (φ 17 3)) 95 4 (φ 17 4)) 95 5 (φ 17 5)) 18 96 8) 19 97 8) 20 98 6) 21 99 6) 22 100 36) 23 101 6) 24 102 6) 25 103 8) := fr_cp r16 (by decide)
  exact hQ (hf_cp (hf_cp (hf_cp (hf_cp (hf_cp (hf_cp (hf_cp (hf_cp (hf_up (hf_up (hf_up (hf_up (hf_up (hf_up φ 95 0 (φ 17 0)) 95 1 (φ 17 1)) 95 2 (φ 17 2)) 95 3 (φ 17 3)) 95 4 (φ 17 4)) 95 5 (φ 17 5)) 18 96 8) 19 97 8) 20 98 6) 21 99 6) 22 100 36) 23 101 6) 24 102 6) 25 103 8) i17 r17
theorem sf_67_104_26_v {sc : List Int} {d : Nat} {φ : hf_F} {x : Nat} {Q : Option jm_V → hf_F → Nat → Prop} 
    (H : ((φ 26 5) = 0 ∨ (φ 26 5) = 1) ∧ (Q none (hf_up (hf_up (hf_up (hf_cp (hf_cp (hf_cp φ 27 105 40) 28 106 40) 29 107 40) 104 3 (φ 26 3)) 104 4 (φ 26 4)) 104 5 (φ 26 5)) x)) :
    hw sc d 67 0 [(0, (2, 104)), (1, (2, 26))] [] φ x Q := by
  refine hw_ald (b := 1) (e := 0) (by decide +kernel) rfl (by decide) ?_
  refine hr_gr (w := 27) (b := 5) (e := 0) 26 rfl (by decide +kernel) ?_
  refine hw_k (c := 0) (b := 0) (e := 1) (by decide +kernel) ?_
  refine hw_ald (b := 0) (e := 0) (by decide +kernel) rfl (by decide) ?_
  refine hr_gr (w := 105) (b := 5) (e := 0) 104 rfl (by decide +kernel) ?_
  refine hw_k (c := 0) (b := 0) (e := 1) (by decide +kernel) ?_
  refine hw_k (c := 40) (b := 1) (e := 2) (by decide +kernel) ?_
  refine hr_cp (a0 := 0) (b0 := 0) (e := 0) 27 105 40 rfl rfl rfl (by decide +kernel) (Nat.le_of_ble_eq_true rfl) ?_
  refine hw_ald (b := 1) (e := 0) (by decide +kernel) rfl (by decide) ?_
  refine hr_gr (w := 28) (b := 5) (e := 1) 26 rfl (by decide +kernel) ?_
  refine hw_k (c := 0) (b := 0) (e := 1) (by decide +kernel) ?_
  refine hw_ald (b := 0) (e := 0) (by decide +kernel) rfl (by decide) ?_
  refine hr_gr (w := 106) (b := 5) (e := 1) 104 rfl (by decide +kernel) ?_
  refine hw_k (c := 0) (b := 0) (e := 1) (by decide +kernel) ?_
  refine hw_k (c := 40) (b := 1) (e := 2) (by decide +kernel) ?_
  refine hr_cp (a0 := 0) (b0 := 0) (e := 0) 28 106 40 rfl rfl rfl (by decide +kernel) (Nat.le_of_ble_eq_true rfl) ?_
  refine hw_ald (b := 1) (e := 0) (by decide +kernel) rfl (by decide) ?_
  refine hr_gr (w := 29) (b := 5) (e := 2) 26 rfl (by decide +kernel) ?_
  refine hw_k (c := 0) (b := 0) (e := 1) (by decide +kernel) ?_
  refine hw_ald (b := 0) (e := 0) (by decide +kernel) rfl (by decide) ?_
  refine hr_gr (w := 107) (b := 5) (e := 2) 104 rfl (by decide +kernel) ?_
  refine hw_k (c := 0) (b := 0) (e := 1) (by decide +kernel) ?_
  refine hw_k (c := 40) (b := 1) (e := 2) (by decide +kernel) ?_
  refine hr_cp (a0 := 0) (b0 := 0) (e := 0) 29 107 40 rfl rfl rfl (by decide +kernel) (Nat.le_of_ble_eq_true rfl) ?_
  refine hw_ald (b := 0) (e := 0) (by decide +kernel) rfl (by decide) ?_
  refine hw_ald (b := 1) (e := 0) (by decide +kernel) rfl (by decide) ?_
  refine hr_gi (w := φ 26 3) (b := 5) (e := 3) 26 rfl (by decide +kernel) ((hf_cp_ne (fun q => absurd q.1 (by decide))).trans ((hf_cp_ne (fun q => absurd q.1 (by decide))).trans (hf_cp_ne (fun q => absurd q.1 (by decide))))) ?_
  refine hr_pi (b := 5) (e := 3) 104 rfl (by decide +kernel) ?_
  refine hw_ald (b := 0) (e := 0) (by decide +kernel) rfl (by decide) ?_
  refine hw_ald (b := 1) (e := 0) (by decide +kernel) rfl (by decide) ?_
  refine hr_gi (w := φ 26 4) (b := 5) (e := 4) 26 rfl (by decide +kernel) ((hf_up_ne (fun q => absurd q.1 (by decide))).trans ((hf_cp_ne (fun q => absurd q.1 (by decide))).trans ((hf_cp_ne (fun q => absurd q.1 (by decide))).trans (hf_cp_ne (fun q => absurd q.1 (by decide)))))) ?_
  refine hr_pi (b := 5) (e := 4) 104 rfl (by decide +kernel) ?_
  refine hw_ald (b := 0) (e := 0) (by decide +kernel) rfl (by decide) ?_
  refine hw_ald (b := 1) (e := 0) (by decide +kernel) rfl (by decide) ?_
  refine hr_gz (w := φ 26 5) (b := 5) (e := 5) 26 rfl (by decide +kernel) ((hf_up_ne (fun q => absurd q.1 (by decide))).trans ((hf_up_ne (fun q => absurd q.1 (by decide))).trans ((hf_cp_ne (fun q => absurd q.1 (by decide))).trans ((hf_cp_ne (fun q => absurd q.1 (by decide))).trans (hf_cp_ne (fun q => absurd q.1 (by decide))))))) ?_
  obtain ⟨h01_1, H⟩ := H
  refine hr_pz (b := 5) (e := 5) 104 rfl (by decide +kernel) h01_1 ?_
  exact hw_vret (a0 := 0) (e := 0) (by decide +kernel) H
theorem sf_67_104_26 {sc : List Int} {d : Nat} {φ : hf_F} {x : Nat} {Q : Option jm_V → hf_F → Nat → Prop}  (hI : Inv φ)  (hQ : ∀ ψ : hf_F, Inv ψ → Fr [104, 105, 106, 107] φ ψ → Q none ψ x) : hw sc d 67 0 [(0, (2, 104)), (1, (2, 26))] [] φ x Q := by
  apply sf_67_104_26_v
  have i1 : Inv (hf_cp φ 27 105 40) := iv_cp hI (by decide) (by decide +kernel)
  have r1 : Fr [104, 105, 106, 107] φ (hf_cp φ 27 105 40) := fr_cp (fr_rf) (by decide)
  have i2 : Inv (hf_cp (hf_cp φ 27 105 40) 28 106 40) := iv_cp i1 (by decide) (by decide +kernel)
  have r2 : Fr [104, 105, 106, 107] φ (hf_cp (hf_cp φ 27 105 40) 28 106 40) := fr_cp r1 (by decide)
  have i3 : Inv (hf_cp (hf_cp (hf_cp φ 27 105 40) 28 106 40) 29 107 40) := iv_cp i2 (by decide) (by decide +kernel)
  have r3 : Fr [104, 105, 106, 107] φ (hf_cp (hf_cp (hf_cp φ 27 105 40) 28 106 40) 29 107 40) := fr_cp r2 (by decide)
  have f4 := iv_at (a := 26) (k := 3) (lo := 0) (u := 40) hI (by decide +kernel)
  have i5 : Inv (hf_up (hf_cp (hf_cp (hf_cp φ 27 105 40) 28 106 40) 29 107 40) 104 3 (φ 26 3)) := iv_up (lo := 0) (u := 40) i3 (by decide +kernel) (by omega) (by omega)
  have r5 : Fr [104, 105, 106, 107] φ (hf_up (hf_cp (hf_cp (hf_cp φ 27 105 40) 28 106 40) 29 107 40) 104 3 (φ 26 3)) := fr_up r3 (by decide)
  have f6 := iv_at (a := 26) (k := 4) (lo := 0) (u := 20) hI (by decide +kernel)
  have i7 : Inv (hf_up (hf_up (hf_cp (hf_cp (hf_cp φ 27 105 40) 28 106 40) 29 107 40) 104 3 (φ 26 3)) 104 4 (φ 26 4)) := iv_up (lo := 0) (u := 20) i5 (by decide +kernel) (by omega) (by omega)
  have r7 : Fr [104, 105, 106, 107] φ (hf_up (hf_up (hf_cp (hf_cp (hf_cp φ 27 105 40) 28 106 40) 29 107 40) 104 3 (φ 26 3)) 104 4 (φ 26 4)) := fr_up r5 (by decide)
  have f8 := iv_at (a := 26) (k := 5) (lo := 0) (u := 1) hI (by decide +kernel)
  refine ⟨by omega, ?_⟩
  have i9 : Inv (hf_up (hf_up (hf_up (hf_cp (hf_cp (hf_cp φ 27 105 40) 28 106 40) 29 107 40) 104 3 (φ 26 3)) 104 4 (φ 26 4)) 104 5 (φ 26 5)) := iv_up (lo := 0) (u := 1) i7 (by decide +kernel) (by omega) (by omega)
  have r9 : Fr [104, 105, 106, 107] φ (hf_up (hf_up (hf_up (hf_cp (hf_cp (hf_cp φ 27 105 40) 28 106 40) 29 107 40) 104 3 (φ 26 3)) 104 4 (φ 26 4)) 104 5 (φ 26 5)) := fr_up r7 (by decide)
  exact hQ (hf_up (hf_up (hf_up (hf_cp (hf_cp (hf_cp φ 27 105 40) 28 106 40) 29 107 40) 104 3 (φ 26 3)) 104 4 (φ 26 4)) 104 5 (φ 26 5)) i9 r9
theorem sf_64_82_4_v {sc : List Int} {d : Nat} {φ : hf_F} {x : Nat} {Q : Option jm_V → hf_F → Nat → Prop} 
    (H : hw sc d 65 0 [(0, (2, 83)), (1, (2, 5))] [] φ x (fun r ψ1 y1 => y1 = x ∧ (r = none ∧ (hw sc d 66 0 [(0, (2, 95)), (1, (2, 17))] [] ψ1 x (fun r ψ2 y2 => y2 = x ∧ (r = none ∧ (hw sc d 67 0 [(0, (2, 104)), (1, (2, 26))] [] ψ2 x (fun r ψ3 y3 => y3 = x ∧ (r = none ∧ (Q none ψ3 x)))))))))) :
    hw sc (d + 1) 64 0 [(0, (2, 82)), (1, (2, 4))] [] φ x Q := by
  refine hw_ald (b := 0) (e := 0) (by decide +kernel) rfl (by decide) ?_
  refine hr_gr (w := 83) (b := 2) (e := 0) 82 rfl (by decide +kernel) ?_
  refine hw_ald (b := 1) (e := 0) (by decide +kernel) rfl (by decide) ?_
  refine hr_gr (w := 5) (b := 2) (e := 0) 4 rfl (by decide +kernel) ?_
  refine hr_call (a0 := 13) (b := 65) (e := 2) (nl := 2) (As := [(2, 5)]) (R := []) 83 rfl (by decide +kernel) rfl rfl (Nat.le_of_ble_eq_true rfl) (Nat.le_of_ble_eq_true rfl) ?_
  refine hw_mono H ?_
  rintro r ψ1 y1 ⟨hyx, hr, H⟩
  subst hyx
  subst hr
  refine ⟨hnen, ?_⟩
  show hw sc (d + 1) 64 11 [(0, (2, 82)), (1, (2, 4))] [] ψ1 y1 Q
  refine hw_ald (b := 0) (e := 0) (by decide +kernel) rfl (by decide) ?_
  refine hr_gr (w := 95) (b := 2) (e := 1) 82 rfl (by decide +kernel) ?_
  refine hw_ald (b := 1) (e := 0) (by decide +kernel) rfl (by decide) ?_
  refine hr_gr (w := 17) (b := 2) (e := 1) 4 rfl (by decide +kernel) ?_
  refine hr_call (a0 := 14) (b := 66) (e := 2) (nl := 2) (As := [(2, 17)]) (R := []) 95 rfl (by decide +kernel) rfl rfl (Nat.le_of_ble_eq_true rfl) (Nat.le_of_ble_eq_true rfl) ?_
  refine hw_mono H ?_
  rintro r ψ2 y2 ⟨hyx, hr, H⟩
  subst hyx
  subst hr
  refine ⟨hnen, ?_⟩
  show hw sc (d + 1) 64 22 [(0, (2, 82)), (1, (2, 4))] [] ψ2 y2 Q
  refine hw_ald (b := 0) (e := 0) (by decide +kernel) rfl (by decide) ?_
  refine hr_gr (w := 104) (b := 2) (e := 2) 82 rfl (by decide +kernel) ?_
  refine hw_ald (b := 1) (e := 0) (by decide +kernel) rfl (by decide) ?_
  refine hr_gr (w := 26) (b := 2) (e := 2) 4 rfl (by decide +kernel) ?_
  refine hr_call (a0 := 15) (b := 67) (e := 2) (nl := 2) (As := [(2, 26)]) (R := []) 104 rfl (by decide +kernel) rfl rfl (Nat.le_of_ble_eq_true rfl) (Nat.le_of_ble_eq_true rfl) ?_
  refine hw_mono H ?_
  rintro r ψ3 y3 ⟨hyx, hr, H⟩
  subst hyx
  subst hr
  refine ⟨hnen, ?_⟩
  show hw sc (d + 1) 64 33 [(0, (2, 82)), (1, (2, 4))] [] ψ3 y3 Q
  exact hw_vret (a0 := 0) (e := 0) (by decide +kernel) H
theorem sf_64_82_4 {sc : List Int} {d : Nat} {φ : hf_F} {x : Nat} {Q : Option jm_V → hf_F → Nat → Prop}  (hI : Inv φ)  (hQ : ∀ ψ : hf_F, Inv ψ → Fr [84, 85, 86, 87, 88, 89, 90, 91, 92, 93, 94, 95, 96, 97, 98, 99, 100, 101, 102, 103, 104, 105, 106, 107] φ ψ → Q none ψ x) : hw sc (d + 1) 64 0 [(0, (2, 82)), (1, (2, 4))] [] φ x Q := by
  apply sf_64_82_4_v
  refine sf_65_83_5 (φ := φ) hI  (fun ψ1 hI1 hF1 => ⟨rfl, rfl, ?_⟩)
  have hG1 : Fr [84, 85, 86, 87, 88, 89, 90, 91, 92, 93, 94, 95, 96, 97, 98, 99, 100, 101, 102, 103, 104, 105, 106, 107] φ ψ1 := fr_tr (fr_rf) hF1 (by decide)
  refine sf_66_95_17 (φ := ψ1) hI1  (fun ψ2 hI2 hF2 => ⟨rfl, rfl, ?_⟩)
  have hG2 : Fr [84, 85, 86, 87, 88, 89, 90, 91, 92, 93, 94, 95, 96, 97, 98, 99, 100, 101, 102, 103, 104, 105, 106, 107] φ ψ2 := fr_tr hG1 hF2 (by decide)
  refine sf_67_104_26 (φ := ψ2) hI2  (fun ψ3 hI3 hF3 => ⟨rfl, rfl, ?_⟩)
  have hG3 : Fr [84, 85, 86, 87, 88, 89, 90, 91, 92, 93, 94, 95, 96, 97, 98, 99, 100, 101, 102, 103, 104, 105, 106, 107] φ ψ3 := fr_tr hG2 hF3 (by decide)
  exact hQ ψ3 hI3 hG3
theorem sf_65_57_5_v {sc : List Int} {d : Nat} {φ : hf_F} {x : Nat} {Q : Option jm_V → hf_F → Nat → Prop} 
    (H : Q none (hf_cp (hf_cp (hf_cp (hf_cp (hf_cp (hf_cp (hf_cp (hf_cp (hf_cp (hf_cp (hf_cp φ 6 58 5) 7 59 40) 8 60 3) 9 61 3) 10 62 8) 11 63 8) 12 64 8) 13 65 8) 14 66 8) 15 67 8) 16 68 64) x) :
    hw sc d 65 0 [(0, (2, 57)), (1, (2, 5))] [] φ x Q := by
  refine hw_ald (b := 1) (e := 0) (by decide +kernel) rfl (by decide) ?_
  refine hr_gr (w := 6) (b := 3) (e := 0) 5 rfl (by decide +kernel) ?_
  refine hw_k (c := 0) (b := 0) (e := 1) (by decide +kernel) ?_
  refine hw_ald (b := 0) (e := 0) (by decide +kernel) rfl (by decide) ?_
  refine hr_gr (w := 58) (b := 3) (e := 0) 57 rfl (by decide +kernel) ?_
  refine hw_k (c := 0) (b := 0) (e := 1) (by decide +kernel) ?_
  refine hw_k (c := 5) (b := 0) (e := 1) (by decide +kernel) ?_
  refine hr_cp (a0 := 0) (b0 := 0) (e := 0) 6 58 5 rfl rfl rfl (by decide +kernel) (Nat.le_of_ble_eq_true rfl) ?_
  refine hw_ald (b := 1) (e := 0) (by decide +kernel) rfl (by decide) ?_
  refine hr_gr (w := 7) (b := 3) (e := 1) 5 rfl (by decide +kernel) ?_
  refine hw_k (c := 0) (b := 0) (e := 1) (by decide +kernel) ?_
  refine hw_ald (b := 0) (e := 0) (by decide +kernel) rfl (by decide) ?_
  refine hr_gr (w := 59) (b := 3) (e := 1) 57 rfl (by decide +kernel) ?_
  refine hw_k (c := 0) (b := 0) (e := 1) (by decide +kernel) ?_
  refine hw_k (c := 40) (b := 1) (e := 2) (by decide +kernel) ?_
  refine hr_cp (a0 := 0) (b0 := 0) (e := 0) 7 59 40 rfl rfl rfl (by decide +kernel) (Nat.le_of_ble_eq_true rfl) ?_
  refine hw_ald (b := 1) (e := 0) (by decide +kernel) rfl (by decide) ?_
  refine hr_gr (w := 8) (b := 3) (e := 2) 5 rfl (by decide +kernel) ?_
  refine hw_k (c := 0) (b := 0) (e := 1) (by decide +kernel) ?_
  refine hw_ald (b := 0) (e := 0) (by decide +kernel) rfl (by decide) ?_
  refine hr_gr (w := 60) (b := 3) (e := 2) 57 rfl (by decide +kernel) ?_
  refine hw_k (c := 0) (b := 0) (e := 1) (by decide +kernel) ?_
  refine hw_k (c := 3) (b := 0) (e := 1) (by decide +kernel) ?_
  refine hr_cp (a0 := 0) (b0 := 0) (e := 0) 8 60 3 rfl rfl rfl (by decide +kernel) (Nat.le_of_ble_eq_true rfl) ?_
  refine hw_ald (b := 1) (e := 0) (by decide +kernel) rfl (by decide) ?_
  refine hr_gr (w := 9) (b := 3) (e := 3) 5 rfl (by decide +kernel) ?_
  refine hw_k (c := 0) (b := 0) (e := 1) (by decide +kernel) ?_
  refine hw_ald (b := 0) (e := 0) (by decide +kernel) rfl (by decide) ?_
  refine hr_gr (w := 61) (b := 3) (e := 3) 57 rfl (by decide +kernel) ?_
  refine hw_k (c := 0) (b := 0) (e := 1) (by decide +kernel) ?_
  refine hw_k (c := 3) (b := 0) (e := 1) (by decide +kernel) ?_
  refine hr_cp (a0 := 0) (b0 := 0) (e := 0) 9 61 3 rfl rfl rfl (by decide +kernel) (Nat.le_of_ble_eq_true rfl) ?_
  refine hw_ald (b := 1) (e := 0) (by decide +kernel) rfl (by decide) ?_
  refine hr_gr (w := 10) (b := 3) (e := 4) 5 rfl (by decide +kernel) ?_
  refine hw_k (c := 0) (b := 0) (e := 1) (by decide +kernel) ?_
  refine hw_ald (b := 0) (e := 0) (by decide +kernel) rfl (by decide) ?_
  refine hr_gr (w := 62) (b := 3) (e := 4) 57 rfl (by decide +kernel) ?_
  refine hw_k (c := 0) (b := 0) (e := 1) (by decide +kernel) ?_
  refine hw_k (c := 8) (b := 1) (e := 2) (by decide +kernel) ?_
  refine hr_cp (a0 := 0) (b0 := 0) (e := 0) 10 62 8 rfl rfl rfl (by decide +kernel) (Nat.le_of_ble_eq_true rfl) ?_
  refine hw_ald (b := 1) (e := 0) (by decide +kernel) rfl (by decide) ?_
  refine hr_gr (w := 11) (b := 3) (e := 5) 5 rfl (by decide +kernel) ?_
  refine hw_k (c := 0) (b := 0) (e := 1) (by decide +kernel) ?_
  refine hw_ald (b := 0) (e := 0) (by decide +kernel) rfl (by decide) ?_
  refine hr_gr (w := 63) (b := 3) (e := 5) 57 rfl (by decide +kernel) ?_
  refine hw_k (c := 0) (b := 0) (e := 1) (by decide +kernel) ?_
  refine hw_k (c := 8) (b := 1) (e := 2) (by decide +kernel) ?_
  refine hr_cp (a0 := 0) (b0 := 0) (e := 0) 11 63 8 rfl rfl rfl (by decide +kernel) (Nat.le_of_ble_eq_true rfl) ?_
  refine hw_ald (b := 1) (e := 0) (by decide +kernel) rfl (by decide) ?_
  refine hr_gr (w := 12) (b := 3) (e := 6) 5 rfl (by decide +kernel) ?_
  refine hw_k (c := 0) (b := 0) (e := 1) (by decide +kernel) ?_
  refine hw_ald (b := 0) (e := 0) (by decide +kernel) rfl (by decide) ?_
  refine hr_gr (w := 64) (b := 3) (e := 6) 57 rfl (by decide +kernel) ?_
  refine hw_k (c := 0) (b := 0) (e := 1) (by decide +kernel) ?_
  refine hw_k (c := 8) (b := 1) (e := 2) (by decide +kernel) ?_
  refine hr_cp (a0 := 0) (b0 := 0) (e := 0) 12 64 8 rfl rfl rfl (by decide +kernel) (Nat.le_of_ble_eq_true rfl) ?_
  refine hw_ald (b := 1) (e := 0) (by decide +kernel) rfl (by decide) ?_
  refine hr_gr (w := 13) (b := 3) (e := 7) 5 rfl (by decide +kernel) ?_
  refine hw_k (c := 0) (b := 0) (e := 1) (by decide +kernel) ?_
  refine hw_ald (b := 0) (e := 0) (by decide +kernel) rfl (by decide) ?_
  refine hr_gr (w := 65) (b := 3) (e := 7) 57 rfl (by decide +kernel) ?_
  refine hw_k (c := 0) (b := 0) (e := 1) (by decide +kernel) ?_
  refine hw_k (c := 8) (b := 1) (e := 2) (by decide +kernel) ?_
  refine hr_cp (a0 := 0) (b0 := 0) (e := 0) 13 65 8 rfl rfl rfl (by decide +kernel) (Nat.le_of_ble_eq_true rfl) ?_
  refine hw_ald (b := 1) (e := 0) (by decide +kernel) rfl (by decide) ?_
  refine hr_gr (w := 14) (b := 3) (e := 8) 5 rfl (by decide +kernel) ?_
  refine hw_k (c := 0) (b := 0) (e := 1) (by decide +kernel) ?_
  refine hw_ald (b := 0) (e := 0) (by decide +kernel) rfl (by decide) ?_
  refine hr_gr (w := 66) (b := 3) (e := 8) 57 rfl (by decide +kernel) ?_
  refine hw_k (c := 0) (b := 0) (e := 1) (by decide +kernel) ?_
  refine hw_k (c := 8) (b := 1) (e := 2) (by decide +kernel) ?_
  refine hr_cp (a0 := 0) (b0 := 0) (e := 0) 14 66 8 rfl rfl rfl (by decide +kernel) (Nat.le_of_ble_eq_true rfl) ?_
  refine hw_ald (b := 1) (e := 0) (by decide +kernel) rfl (by decide) ?_
  refine hr_gr (w := 15) (b := 3) (e := 9) 5 rfl (by decide +kernel) ?_
  refine hw_k (c := 0) (b := 0) (e := 1) (by decide +kernel) ?_
  refine hw_ald (b := 0) (e := 0) (by decide +kernel) rfl (by decide) ?_
  refine hr_gr (w := 67) (b := 3) (e := 9) 57 rfl (by decide +kernel) ?_
  refine hw_k (c := 0) (b := 0) (e := 1) (by decide +kernel) ?_
  refine hw_k (c := 8) (b := 1) (e := 2) (by decide +kernel) ?_
  refine hr_cp (a0 := 0) (b0 := 0) (e := 0) 15 67 8 rfl rfl rfl (by decide +kernel) (Nat.le_of_ble_eq_true rfl) ?_
  refine hw_ald (b := 1) (e := 0) (by decide +kernel) rfl (by decide) ?_
  refine hr_gr (w := 16) (b := 3) (e := 10) 5 rfl (by decide +kernel) ?_
  refine hw_k (c := 0) (b := 0) (e := 1) (by decide +kernel) ?_
  refine hw_ald (b := 0) (e := 0) (by decide +kernel) rfl (by decide) ?_
  refine hr_gr (w := 68) (b := 3) (e := 10) 57 rfl (by decide +kernel) ?_
  refine hw_k (c := 0) (b := 0) (e := 1) (by decide +kernel) ?_
  refine hw_k (c := 64) (b := 1) (e := 2) (by decide +kernel) ?_
  refine hr_cp (a0 := 0) (b0 := 0) (e := 0) 16 68 64 rfl rfl rfl (by decide +kernel) (Nat.le_of_ble_eq_true rfl) ?_
  exact hw_vret (a0 := 0) (e := 0) (by decide +kernel) H
theorem sf_65_57_5 {sc : List Int} {d : Nat} {φ : hf_F} {x : Nat} {Q : Option jm_V → hf_F → Nat → Prop}  (hI : Inv φ)  (hQ : ∀ ψ : hf_F, Inv ψ → Fr [58, 59, 60, 61, 62, 63, 64, 65, 66, 67, 68] φ ψ → Q none ψ x) : hw sc d 65 0 [(0, (2, 57)), (1, (2, 5))] [] φ x Q := by
  apply sf_65_57_5_v
  have i1 : Inv (hf_cp φ 6 58 5) := iv_cp hI (by decide) (by decide +kernel)
  have r1 : Fr [58, 59, 60, 61, 62, 63, 64, 65, 66, 67, 68] φ (hf_cp φ 6 58 5) := fr_cp (fr_rf) (by decide)
  have i2 : Inv (hf_cp (hf_cp φ 6 58 5) 7 59 40) := iv_cp i1 (by decide) (by decide +kernel)
  have r2 : Fr [58, 59, 60, 61, 62, 63, 64, 65, 66, 67, 68] φ (hf_cp (hf_cp φ 6 58 5) 7 59 40) := fr_cp r1 (by decide)
  have i3 : Inv (hf_cp (hf_cp (hf_cp φ 6 58 5) 7 59 40) 8 60 3) := iv_cp i2 (by decide) (by decide +kernel)
  have r3 : Fr [58, 59, 60, 61, 62, 63, 64, 65, 66, 67, 68] φ (hf_cp (hf_cp (hf_cp φ 6 58 5) 7 59 40) 8 60 3) := fr_cp r2 (by decide)
  have i4 : Inv (hf_cp (hf_cp (hf_cp (hf_cp φ 6 58 5) 7 59 40) 8 60 3) 9 61 3) := iv_cp i3 (by decide) (by decide +kernel)
  have r4 : Fr [58, 59, 60, 61, 62, 63, 64, 65, 66, 67, 68] φ (hf_cp (hf_cp (hf_cp (hf_cp φ 6 58 5) 7 59 40) 8 60 3) 9 61 3) := fr_cp r3 (by decide)
  have i5 : Inv (hf_cp (hf_cp (hf_cp (hf_cp (hf_cp φ 6 58 5) 7 59 40) 8 60 3) 9 61 3) 10 62 8) := iv_cp i4 (by decide) (by decide +kernel)
  have r5 : Fr [58, 59, 60, 61, 62, 63, 64, 65, 66, 67, 68] φ (hf_cp (hf_cp (hf_cp (hf_cp (hf_cp φ 6 58 5) 7 59 40) 8 60 3) 9 61 3) 10 62 8) := fr_cp r4 (by decide)
  have i6 : Inv (hf_cp (hf_cp (hf_cp (hf_cp (hf_cp (hf_cp φ 6 58 5) 7 59 40) 8 60 3) 9 61 3) 10 62 8) 11 63 8) := iv_cp i5 (by decide) (by decide +kernel)
  have r6 : Fr [58, 59, 60, 61, 62, 63, 64, 65, 66, 67, 68] φ (hf_cp (hf_cp (hf_cp (hf_cp (hf_cp (hf_cp φ 6 58 5) 7 59 40) 8 60 3) 9 61 3) 10 62 8) 11 63 8) := fr_cp r5 (by decide)
  have i7 : Inv (hf_cp (hf_cp (hf_cp (hf_cp (hf_cp (hf_cp (hf_cp φ 6 58 5) 7 59 40) 8 60 3) 9 61 3) 10 62 8) 11 63 8) 12 64 8) := iv_cp i6 (by decide) (by decide +kernel)
  have r7 : Fr [58, 59, 60, 61, 62, 63, 64, 65, 66, 67, 68] φ (hf_cp (hf_cp (hf_cp (hf_cp (hf_cp (hf_cp (hf_cp φ 6 58 5) 7 59 40) 8 60 3) 9 61 3) 10 62 8) 11 63 8) 12 64 8) := fr_cp r6 (by decide)
  have i8 : Inv (hf_cp (hf_cp (hf_cp (hf_cp (hf_cp (hf_cp (hf_cp (hf_cp φ 6 58 5) 7 59 40) 8 60 3) 9 61 3) 10 62 8) 11 63 8) 12 64 8) 13 65 8) := iv_cp i7 (by decide) (by decide +kernel)
  have r8 : Fr [58, 59, 60, 61, 62, 63, 64, 65, 66, 67, 68] φ (hf_cp (hf_cp (hf_cp (hf_cp (hf_cp (hf_cp (hf_cp (hf_cp φ 6 58 5) 7 59 40) 8 60 3) 9 61 3) 10 62 8) 11 63 8) 12 64 8) 13 65 8) := fr_cp r7 (by decide)
  have i9 : Inv (hf_cp (hf_cp (hf_cp (hf_cp (hf_cp (hf_cp (hf_cp (hf_cp (hf_cp φ 6 58 5) 7 59 40) 8 60 3) 9 61 3) 10 62 8) 11 63 8) 12 64 8) 13 65 8) 14 66 8) := iv_cp i8 (by decide) (by decide +kernel)
  have r9 : Fr [58, 59, 60, 61, 62, 63, 64, 65, 66, 67, 68] φ (hf_cp (hf_cp (hf_cp (hf_cp (hf_cp (hf_cp (hf_cp (hf_cp (hf_cp φ 6 58 5) 7 59 40) 8 60 3) 9 61 3) 10 62 8) 11 63 8) 12 64 8) 13 65 8) 14 66 8) := fr_cp r8 (by decide)
  have i10 : Inv (hf_cp (hf_cp (hf_cp (hf_cp (hf_cp (hf_cp (hf_cp (hf_cp (hf_cp (hf_cp φ 6 58 5) 7 59 40) 8 60 3) 9 61 3) 10 62 8) 11 63 8) 12 64 8) 13 65 8) 14 66 8) 15 67 8) := iv_cp i9 (by decide) (by decide +kernel)
  have r10 : Fr [58, 59, 60, 61, 62, 63, 64, 65, 66, 67, 68] φ (hf_cp (hf_cp (hf_cp (hf_cp (hf_cp (hf_cp (hf_cp (hf_cp (hf_cp (hf_cp φ 6 58 5) 7 59 40) 8 60 3) 9 61 3) 10 62 8) 11 63 8) 12 64 8) 13 65 8) 14 66 8) 15 67 8) := fr_cp r9 (by decide)
  have i11 : Inv (hf_cp (hf_cp (hf_cp (hf_cp (hf_cp (hf_cp (hf_cp (hf_cp (hf_cp (hf_cp (hf_cp φ 6 58 5) 7 59 40) 8 60 3) 9 61 3) 10 62 8) 11 63 8) 12 64 8) 13 65 8) 14 66 8) 15 67 8) 16 68 64) := iv_cp i10 (by decide) (by decide +kernel)
  have r11 : Fr [58, 59, 60, 61, 62, 63, 64, 65, 66, 67, 68] φ (hf_cp (hf_cp (hf_cp (hf_cp (hf_cp (hf_cp (hf_cp (hf_cp (hf_cp (hf_cp (hf_cp φ 6 58 5) 7 59 40) 8 60 3) 9 61 3) 10 62 8) 11 63 8) 12 64 8) 13 65 8) 14 66 8) 15 67 8) 16 68 64) := fr_cp r10 (by decide)
  exact hQ (hf_cp (hf_cp (hf_cp (hf_cp (hf_cp (hf_cp (hf_cp (hf_cp (hf_cp (hf_cp (hf_cp φ 6 58 5) 7 59 40) 8 60 3) 9 61 3) 10 62 8) 11 63 8) 12 64 8) 13 65 8) 14 66 8) 15 67 8) 16 68 64) i11 r11
theorem sf_66_69_17_v {sc : List Int} {d : Nat} {φ : hf_F} {x : Nat} {Q : Option jm_V → hf_F → Nat → Prop} 
    (H : Q none (hf_cp (hf_cp (hf_cp (hf_cp (hf_cp (hf_cp (hf_cp (hf_cp (hf_up (hf_up (hf_up (hf_up (hf_up (hf_up φ 69 0 (φ 17 0)) 69 1 (φ 17 1)) 69 2 (φ 17 2)) 69 3 (φ 17 3)) 69 4 (φ 17 4)) 69 5 (φ 17 5)) 18 70 8) 19 71 8) 20 72 6) 21 73 6) 22 74 36) 23 75 6) 24 76 6) 25 77 8) x) :
    hw sc d 66 0 [(0, (2, 69)), (1, (2, 17))] [] φ x Q := by
  refine hw_ald (b := 0) (e := 0) (by decide +kernel) rfl (by decide) ?_
  refine hw_ald (b := 1) (e := 0) (by decide +kernel) rfl (by decide) ?_
  refine hr_gi (w := φ 17 0) (b := 4) (e := 0) 17 rfl (by decide +kernel) rfl ?_
  refine hr_pi (b := 4) (e := 0) 69 rfl (by decide +kernel) ?_
  refine hw_ald (b := 0) (e := 0) (by decide +kernel) rfl (by decide) ?_
  refine hw_ald (b := 1) (e := 0) (by decide +kernel) rfl (by decide) ?_
  refine hr_gi (w := φ 17 1) (b := 4) (e := 1) 17 rfl (by decide +kernel) (hf_up_ne (fun q => absurd q.1 (by decide))) ?_
  refine hr_pi (b := 4) (e := 1) 69 rfl (by decide +kernel) ?_
  refine hw_ald (b := 0) (e := 0) (by decide +kernel) rfl (by decide) ?_
  refine hw_ald (b := 1) (e := 0) (by decide +kernel) rfl (by decide) ?_
  refine hr_gi (w := φ 17 2) (b := 4) (e := 2) 17 rfl (by decide +kernel) ((hf_up_ne (fun q => absurd q.1 (by decide))).trans (hf_up_ne (fun q => absurd q.1 (by decide)))) ?_
  refine hr_pi (b := 4) (e := 2) 69 rfl (by decide +kernel) ?_
  refine hw_ald (b := 0) (e := 0) (by decide +kernel) rfl (by decide) ?_
  refine hw_ald (b := 1) (e := 0) (by decide +kernel) rfl (by decide) ?_
  refine hr_gi (w := φ 17 3) (b := 4) (e := 3) 17 rfl (by decide +kernel) ((hf_up_ne (fun q => absurd q.1 (by decide))).trans ((hf_up_ne (fun q => absurd q.1 (by decide))).trans (hf_up_ne (fun q => absurd q.1 (by decide))))) ?_
  refine hr_pi (b := 4) (e := 3) 69 rfl (by decide +kernel) ?_
  refine hw_ald (b := 0) (e := 0) (by decide +kernel) rfl (by decide) ?_
  refine hw_ald (b := 1) (e := 0) (by decide +kernel) rfl (by decide) ?_
  refine hr_gi (w := φ 17 4) (b := 4) (e := 4) 17 rfl (by decide +kernel) ((hf_up_ne (fun q => absurd q.1 (by decide))).trans ((hf_up_ne (fun q => absurd q.1 (by decide))).trans ((hf_up_ne (fun q => absurd q.1 (by decide))).trans (hf_up_ne (fun q => absurd q.1 (by decide)))))) ?_
  refine hr_pi (b := 4) (e := 4) 69 rfl (by decide +kernel) ?_
  refine hw_ald (b := 0) (e := 0) (by decide +kernel) rfl (by decide) ?_
  refine hw_ald (b := 1) (e := 0) (by decide +kernel) rfl (by decide) ?_
  refine hr_gi (w := φ 17 5) (b := 4) (e := 5) 17 rfl (by decide +kernel) ((hf_up_ne (fun q => absurd q.1 (by decide))).trans ((hf_up_ne (fun q => absurd q.1 (by decide))).trans ((hf_up_ne (fun q => absurd q.1 (by decide))).trans ((hf_up_ne (fun q => absurd q.1 (by decide))).trans (hf_up_ne (fun q => absurd q.1 (by decide))))))) ?_
  refine hr_pi (b := 4) (e := 5) 69 rfl (by decide +kernel) ?_
  refine hw_ald (b := 1) (e := 0) (by decide +kernel) rfl (by decide) ?_
  refine hr_gr (w := 18) (b := 4) (e := 6) 17 rfl (by decide +kernel) ?_
  refine hw_k (c := 0) (b := 0) (e := 1) (by decide +kernel) ?_
  refine hw_ald (b := 0) (e := 0) (by decide +kernel) rfl (by decide) ?_
  refine hr_gr (w := 70) (b := 4) (e := 6) 69 rfl (by decide +kernel) ?_
  refine hw_k (c := 0) (b := 0) (e := 1) (by decide +kernel) ?_
  refine hw_k (c := 8) (b := 1) (e := 2) (by decide +kernel) ?_
  refine hr_cp (a0 := 0) (b0 := 0) (e := 0) 18 70 8 rfl rfl rfl (by decide +kernel) (Nat.le_of_ble_eq_true rfl) ?_
  refine hw_ald (b := 1) (e := 0) (by decide +kernel) rfl (by decide) ?_
  refine hr_gr (w := 19) (b := 4) (e := 7) 17 rfl (by decide +kernel) ?_
  refine hw_k (c := 0) (b := 0) (e := 1) (by decide +kernel) ?_
  refine hw_ald (b := 0) (e := 0) (by decide +kernel) rfl (by decide) ?_
  refine hr_gr (w := 71) (b := 4) (e := 7) 69 rfl (by decide +kernel) ?_
  refine hw_k (c := 0) (b := 0) (e := 1) (by decide +kernel) ?_
  refine hw_k (c := 8) (b := 1) (e := 2) (by decide +kernel) ?_
  refine hr_cp (a0 := 0) (b0 := 0) (e := 0) 19 71 8 rfl rfl rfl (by decide +kernel) (Nat.le_of_ble_eq_true rfl) ?_
  refine hw_ald (b := 1) (e := 0) (by decide +kernel) rfl (by decide) ?_
  refine hr_gr (w := 20) (b := 4) (e := 8) 17 rfl (by decide +kernel) ?_
  refine hw_k (c := 0) (b := 0) (e := 1) (by decide +kernel) ?_
  refine hw_ald (b := 0) (e := 0) (by decide +kernel) rfl (by decide) ?_
  refine hr_gr (w := 72) (b := 4) (e := 8) 69 rfl (by decide +kernel) ?_
  refine hw_k (c := 0) (b := 0) (e := 1) (by decide +kernel) ?_
  refine hw_k (c := 6) (b := 1) (e := 2) (by decide +kernel) ?_
  refine hr_cp (a0 := 0) (b0 := 0) (e := 0) 20 72 6 rfl rfl rfl (by decide +kernel) (Nat.le_of_ble_eq_true rfl) ?_
  refine hw_ald (b := 1) (e := 0) (by decide +kernel) rfl (by decide) ?_
  refine hr_gr (w := 21) (b := 4) (e := 9) 17 rfl (by decide +kernel) ?_
  refine hw_k (c := 0) (b := 0) (e := 1) (by decide +kernel) ?_
  refine hw_ald (b := 0) (e := 0) (by decide +kernel) rfl (by decide) ?_
  refine hr_gr (w := 73) (b := 4) (e := 9) 69 rfl (by decide +kernel) ?_
  refine hw_k (c := 0) (b := 0) (e := 1) (by decide +kernel) ?_
  refine hw_k (c := 6) (b := 1) (e := 2) (by decide +kernel) ?_
  refine hr_cp (a0 := 0) (b0 := 0) (e := 0) 21 73 6 rfl rfl rfl (by decide +kernel) (Nat.le_of_ble_eq_true rfl) ?_
  refine hw_ald (b := 1) (e := 0) (by decide +kernel) rfl (by decide) ?_
  refine hr_gr (w := 22) (b := 4) (e := 10) 17 rfl (by decide +kernel) ?_
  refine hw_k (c := 0) (b := 0) (e := 1) (by decide +kernel) ?_
  refine hw_ald (b := 0) (e := 0) (by decide +kernel) rfl (by decide) ?_
  refine hr_gr (w := 74) (b := 4) (e := 10) 69 rfl (by decide +kernel) ?_
  refine hw_k (c := 0) (b := 0) (e := 1) (by decide +kernel) ?_
  refine hw_k (c := 36) (b := 1) (e := 2) (by decide +kernel) ?_
  refine hr_cp (a0 := 0) (b0 := 0) (e := 0) 22 74 36 rfl rfl rfl (by decide +kernel) (Nat.le_of_ble_eq_true rfl) ?_
  refine hw_ald (b := 1) (e := 0) (by decide +kernel) rfl (by decide) ?_
  refine hr_gr (w := 23) (b := 4) (e := 11) 17 rfl (by decide +kernel) ?_
  refine hw_k (c := 0) (b := 0) (e := 1) (by decide +kernel) ?_
  refine hw_ald (b := 0) (e := 0) (by decide +kernel) rfl (by decide) ?_
  refine hr_gr (w := 75) (b := 4) (e := 11) 69 rfl (by decide +kernel) ?_
  refine hw_k (c := 0) (b := 0) (e := 1) (by decide +kernel) ?_
  refine hw_k (c := 6) (b := 1) (e := 2) (by decide +kernel) ?_
  refine hr_cp (a0 := 0) (b0 := 0) (e := 0) 23 75 6 rfl rfl rfl (by decide +kernel) (Nat.le_of_ble_eq_true rfl) ?_
  refine hw_ald (b := 1) (e := 0) (by decide +kernel) rfl (by decide) ?_
  refine hr_gr (w := 24) (b := 4) (e := 12) 17 rfl (by decide +kernel) ?_
  refine hw_k (c := 0) (b := 0) (e := 1) (by decide +kernel) ?_
  refine hw_ald (b := 0) (e := 0) (by decide +kernel) rfl (by decide) ?_
  refine hr_gr (w := 76) (b := 4) (e := 12) 69 rfl (by decide +kernel) ?_
  refine hw_k (c := 0) (b := 0) (e := 1) (by decide +kernel) ?_
  refine hw_k (c := 6) (b := 1) (e := 2) (by decide +kernel) ?_
  refine hr_cp (a0 := 0) (b0 := 0) (e := 0) 24 76 6 rfl rfl rfl (by decide +kernel) (Nat.le_of_ble_eq_true rfl) ?_
  refine hw_ald (b := 1) (e := 0) (by decide +kernel) rfl (by decide) ?_
  refine hr_gr (w := 25) (b := 4) (e := 13) 17 rfl (by decide +kernel) ?_
  refine hw_k (c := 0) (b := 0) (e := 1) (by decide +kernel) ?_
  refine hw_ald (b := 0) (e := 0) (by decide +kernel) rfl (by decide) ?_
  refine hr_gr (w := 77) (b := 4) (e := 13) 69 rfl (by decide +kernel) ?_
  refine hw_k (c := 0) (b := 0) (e := 1) (by decide +kernel) ?_
  refine hw_k (c := 8) (b := 1) (e := 2) (by decide +kernel) ?_
  refine hr_cp (a0 := 0) (b0 := 0) (e := 0) 25 77 8 rfl rfl rfl (by decide +kernel) (Nat.le_of_ble_eq_true rfl) ?_
  exact hw_vret (a0 := 0) (e := 0) (by decide +kernel) H
theorem sf_66_69_17 {sc : List Int} {d : Nat} {φ : hf_F} {x : Nat} {Q : Option jm_V → hf_F → Nat → Prop}  (hI : Inv φ)  (hQ : ∀ ψ : hf_F, Inv ψ → Fr [69, 70, 71, 72, 73, 74, 75, 76, 77] φ ψ → Q none ψ x) : hw sc d 66 0 [(0, (2, 69)), (1, (2, 17))] [] φ x Q := by
  apply sf_66_69_17_v
  have i1 : Inv (hf_up φ 69 0 (φ 17 0)) := iv_upn hI (by decide) (by decide +kernel)
  have r1 : Fr [69, 70, 71, 72, 73, 74, 75, 76, 77] φ (hf_up φ 69 0 (φ 17 0)) := fr_up (fr_rf) (by decide)
  have f2 := iv_at (a := 17) (k := 1) (lo := (-1 : Int)) (u := 7) hI (by decide +kernel)
  have i3 : Inv (hf_up (hf_up φ 69 0 (φ 17 0)) 69 1 (φ 17 1)) := iv_up (lo := (-1 : Int)) (u := 7) i1 (by decide +kernel) (by omega) (by omega)
  have r3 : Fr [69, 70, 71, 72, 73, 74, 75, 76, 77] φ (hf_up (hf_up φ 69 0 (φ 17 0)) 69 1 (φ 17 1)) := fr_up r1 (by decide)
  have f4 := iv_at (a := 17) (k := 2) (lo := (-1 : Int)) (u := 5) hI (by decide +kernel)
  have i5 : Inv (hf_up (hf_up (hf_up φ 69 0 (φ 17 0)) 69 1 (φ 17 1)) 69 2 (φ 17 2)) := iv_up (lo := (-1 : Int)) (u := 5) i3 (by decide +kernel) (by omega) (by omega)
  have r5 : Fr [69, 70, 71, 72, 73, 74, 75, 76, 77] φ (hf_up (hf_up (hf_up φ 69 0 (φ 17 0)) 69 1 (φ 17 1)) 69 2 (φ 17 2)) := fr_up r3 (by decide)
  have f6 := iv_at (a := 17) (k := 3) (lo := (-2147483648 : Int)) (u := 2147483647) hI (by decide +kernel)
  have i7 : Inv (hf_up (hf_up (hf_up (hf_up φ 69 0 (φ 17 0)) 69 1 (φ 17 1)) 69 2 (φ 17 2)) 69 3 (φ 17 3)) := iv_up (lo := (-2147483648 : Int)) (u := 2147483647) i5 (by decide +kernel) (by omega) (by omega)
  have r7 : Fr [69, 70, 71, 72, 73, 74, 75, 76, 77] φ (hf_up (hf_up (hf_up (hf_up φ 69 0 (φ 17 0)) 69 1 (φ 17 1)) 69 2 (φ 17 2)) 69 3 (φ 17 3)) := fr_up r5 (by decide)
  have i8 : Inv (hf_up (hf_up (hf_up (hf_up (hf_up φ 69 0 (φ 17 0)) 69 1 (φ 17 1)) 69 2 (φ 17 2)) 69 3 (φ 17 3)) 69 4 (φ 17 4)) := iv_upn i7 (by decide) (by decide +kernel)
  have r8 : Fr [69, 70, 71, 72, 73, 74, 75, 76, 77] φ (hf_up (hf_up (hf_up (hf_up (hf_up φ 69 0 (φ 17 0)) 69 1 (φ 17 1)) 69 2 (φ 17 2)) 69 3 (φ 17 3)) 69 4 (φ 17 4)) := fr_up r7 (by decide)
  have i9 : Inv (hf_up (hf_up (hf_up (hf_up (hf_up (hf_up φ 69 0 (φ 17 0)) 69 1 (φ 17 1)) 69 2 (φ 17 2)) 69 3 (φ 17 3)) 69 4 (φ 17 4)) 69 5 (φ 17 5)) := iv_upn i8 (by decide) (by decide +kernel)
  have r9 : Fr [69, 70, 71, 72, 73, 74, 75, 76, 77] φ (hf_up (hf_up (hf_up (hf_up (hf_up (hf_up φ 69 0 (φ 17 0)) 69 1 (φ 17 1)) 69 2 (φ 17 2)) 69 3 (φ 17 3)) 69 4 (φ 17 4)) 69 5 (φ 17 5)) := fr_up r8 (by decide)
  have i10 : Inv (hf_cp (hf_up (hf_up (hf_up (hf_up (hf_up (hf_up φ 69 0 (φ 17 0)) 69 1 (φ 17 1)) 69 2 (φ 17 2)) 69 3 (φ 17 3)) 69 4 (φ 17 4)) 69 5 (φ 17 5)) 18 70 8) := iv_cp i9 (by decide) (by decide +kernel)
  have r10 : Fr [69, 70, 71, 72, 73, 74, 75, 76, 77] φ (hf_cp (hf_up (hf_up (hf_up (hf_up (hf_up (hf_up φ 69 0 (φ 17 0)) 69 1 (φ 17 1)) 69 2 (φ 17 2)) 69 3 (φ 17 3)) 69 4 (φ 17 4)) 69 5 (φ 17 5)) 18 70 8) := fr_cp r9 (by decide)
  have i11 : Inv (hf_cp (hf_cp (hf_up (hf_up (hf_up (hf_up (hf_up (hf_up φ 69 0 (φ 17 0)) 69 1 (φ 17 1)) 69 2 (φ 17 2)) 69 3 (φ 17 3)) 69 4 (φ 17 4)) 69 5 (φ 17 5)) 18 70 8) 19 71 8) := iv_cp i10 (by decide) (by decide +kernel)
  have r11 : Fr [69, 70, 71, 72, 73, 74, 75, 76, 77] φ (hf_cp (hf_cp (hf_up (hf_up (hf_up (hf_up (hf_up (hf_up φ 69 0 (φ 17 0)) 69 1 (φ 17 1)) 69 2 (φ 17 2)) 69 3 (φ 17 3)) 69 4 (φ 17 4)) 69 5 (φ 17 5)) 18 70 8) 19 71 8) := fr_cp r10 (by decide)
  have i12 : Inv (hf_cp (hf_cp (hf_cp (hf_up (hf_up (hf_up (hf_up (hf_up (hf_up φ 69 0 (φ 17 0)) 69 1 (φ 17 1)) 69 2 (φ 17 2)) 69 3 (φ 17 3)) 69 4 (φ 17 4)) 69 5 (φ 17 5)) 18 70 8) 19 71 8) 20 72 6) := iv_cp i11 (by decide) (by decide +kernel)
  have r12 : Fr [69, 70, 71, 72, 73, 74, 75, 76, 77] φ (hf_cp (hf_cp (hf_cp (hf_up (hf_up (hf_up (hf_up (hf_up (hf_up φ 69 0 (φ 17 0)) 69 1 (φ 17 1)) 69 2 (φ 17 2)) 69 3 (φ 17 3)) 69 4 (φ 17 4)) 69 5 (φ 17 5)) 18 70 8) 19 71 8) 20 72 6) := fr_cp r11 (by decide)
  have i13 : Inv (hf_cp (hf_cp (hf_cp (hf_cp (hf_up (hf_up (hf_up (hf_up (hf_up (hf_up φ 69 0 (φ 17 0)) 69 1 (φ 17 1)) 69 2 (φ 17 2)) 69 3 (φ 17 3)) 69 4 (φ 17 4)) 69 5 (φ 17 5)) 18 70 8) 19 71 8) 20 72 6) 21 73 6) := iv_cp i12 (by decide) (by decide +kernel)
  have r13 : Fr [69, 70, 71, 72, 73, 74, 75, 76, 77] φ (hf_cp (hf_cp (hf_cp (hf_cp (hf_up (hf_up (hf_up (hf_up (hf_up (hf_up φ 69 0 (φ 17 0)) 69 1 (φ 17 1)) 69 2 (φ 17 2)) 69 3 (φ 17 3)) 69 4 (φ 17 4)) 69 5 (φ 17 5)) 18 70 8) 19 71 8) 20 72 6) 21 73 6) := fr_cp r12 (by decide)
  have i14 : Inv (hf_cp (hf_cp (hf_cp (hf_cp (hf_cp (hf_up (hf_up (hf_up (hf_up (hf_up (hf_up φ 69 0 (φ 17 0)) 69 1 (φ 17 1)) 69 2 (φ 17 2)) 69 3 (φ 17 3)) 69 4 (φ 17 4)) 69 5 (φ 17 5)) 18 70 8) 19 71 8) 20 72 6) 21 73 6) 22 74 36) := iv_cp i13 (by decide) (by decide +kernel)
  have r14 : Fr [69, 70, 71, 72, 73, 74, 75, 76, 77] φ (hf_cp (hf_cp (hf_cp (hf_cp (hf_cp (hf_up (hf_up (hf_up (hf_up (hf_up (hf_up φ 69 0 (φ 17 0)) 69 1 (φ 17 1)) 69 2 (φ 17 2)) 69 3 (φ 17 3)) 69 4 (φ 17 4)) 69 5 (φ 17 5)) 18 70 8) 19 71 8) 20 72 6) 21 73 6) 22 74 36) := fr_cp r13 (by decide)
  have i15 : Inv (hf_cp (hf_cp (hf_cp (hf_cp (hf_cp (hf_cp (hf_up (hf_up (hf_up (hf_up (hf_up (hf_up φ 69 0 (φ 17 0)) 69 1 (φ 17 1)) 69 2 (φ 17 2)) 69 3 (φ 17 3)) 69 4 (φ 17 4)) 69 5 (φ 17 5)) 18 70 8) 19 71 8) 20 72 6) 21 73 6) 22 74 36) 23 75 6) := iv_cp i14 (by decide) (by decide +kernel)
  have r15 : Fr [69, 70, 71, 72, 73, 74, 75, 76, 77] φ (hf_cp (hf_cp (hf_cp (hf_cp (hf_cp (hf_cp (hf_up (hf_up (hf_up (hf_up (hf_up (hf_up φ 69 0 (φ 17 0)) 69 1 (φ 17 1)) 69 2 (φ 17 2)) 69 3 (φ 17 3)) 69 4 (φ 17 4)) 69 5 (φ 17 5)) 18 70 8) 19 71 8) 20 72 6) 21 73 6) 22 74 36) 23 75 6) := fr_cp r14 (by decide)
  have i16 : Inv (hf_cp (hf_cp (hf_cp (hf_cp (hf_cp (hf_cp (hf_cp (hf_up (hf_up (hf_up (hf_up (hf_up (hf_up φ 69 0 (φ 17 0)) 69 1 (φ 17 1)) 69 2 (φ 17 2)) 69 3 (φ 17 3)) 69 4 (φ 17 4)) 69 5 (φ 17 5)) 18 70 8) 19 71 8) 20 72 6) 21 73 6) 22 74 36) 23 75 6) 24 76 6) := iv_cp i15 (by decide) (by decide +kernel)
  have r16 : Fr [69, 70, 71, 72, 73, 74, 75, 76, 77] φ (hf_cp (hf_cp (hf_cp (hf_cp (hf_cp (hf_cp (hf_cp (hf_up (hf_up (hf_up (hf_up (hf_up (hf_up φ 69 0 (φ 17 0)) 69 1 (φ 17 1)) 69 2 (φ 17 2)) 69 3 (φ 17 3)) 69 4 (φ 17 4)) 69 5 (φ 17 5)) 18 70 8) 19 71 8) 20 72 6) 21 73 6) 22 74 36) 23 75 6) 24 76 6) := fr_cp r15 (by decide)
  have i17 : Inv (hf_cp (hf_cp (hf_cp (hf_cp (hf_cp (hf_cp (hf_cp (hf_cp (hf_up (hf_up (hf_up (hf_up (hf_up (hf_up φ 69 0 (φ 17 0)) 69 1 (φ 17 1)) 69 2 (φ 17 2)) 69 3 (φ 17 3)) 69 4 (φ 17 4)) 69 5 (φ 17 5)) 18 70 8) 19 71 8) 20 72 6) 21 73 6) 22 74 36) 23 75 6) 24 76 6) 25 77 8) := iv_cp i16 (by decide) (by decide +kernel)
  have r17 : Fr [69, 70, 71, 72, 73, 74, 75, 76, 77] φ (hf_cp (hf_cp (hf_cp (hf_cp (hf_cp (hf_cp (hf_cp (hf_cp (hf_up (hf_up (hf_up (hf_up (hf_up (hf_up φ 69 0 (φ 17 0)) 69 1 (φ 17 1)) 69 2 (φ 17 2)) 69 3 (φ 17 3)) 69 4 (φ 17 4)) 69 5 (φ 17 5)) 18 70 8) 19 71 8) 20 72 6) 21 73 6) 22 74 36) 23 75 6) 24 76 6) 25 77 8) := fr_cp r16 (by decide)
  exact hQ (hf_cp (hf_cp (hf_cp (hf_cp (hf_cp (hf_cp (hf_cp (hf_cp (hf_up (hf_up (hf_up (hf_up (hf_up (hf_up φ 69 0 (φ 17 0)) 69 1 (φ 17 1)) 69 2 (φ 17 2)) 69 3 (φ 17 3)) 69 4 (φ 17 4)) 69 5 (φ 17 5)) 18 70 8) 19 71 8) 20 72 6) 21 73 6) 22 74 36) 23 75 6) 24 76 6) 25 77 8) i17 r17
theorem sf_67_78_26_v {sc : List Int} {d : Nat} {φ : hf_F} {x : Nat} {Q : Option jm_V → hf_F → Nat → Prop} 
    (H : ((φ 26 5) = 0 ∨ (φ 26 5) = 1) ∧ (Q none (hf_up (hf_up (hf_up (hf_cp (hf_cp (hf_cp φ 27 79 40) 28 80 40) 29 81 40) 78 3 (φ 26 3)) 78 4 (φ 26 4)) 78 5 (φ 26 5)) x)) :
    hw sc d 67 0 [(0, (2, 78)), (1, (2, 26))] [] φ x Q := by
  refine hw_ald (b := 1) (e := 0) (by decide +kernel) rfl (by decide) ?_
  refine hr_gr (w := 27) (b := 5) (e := 0) 26 rfl (by decide +kernel) ?_
  refine hw_k (c := 0) (b := 0) (e := 1) (by decide +kernel) ?_
  refine hw_ald (b := 0) (e := 0) (by decide +kernel) rfl (by decide) ?_
  refine hr_gr (w := 79) (b := 5) (e := 0) 78 rfl (by decide +kernel) ?_
  refine hw_k (c := 0) (b := 0) (e := 1) (by decide +kernel) ?_
  refine hw_k (c := 40) (b := 1) (e := 2) (by decide +kernel) ?_
  refine hr_cp (a0 := 0) (b0 := 0) (e := 0) 27 79 40 rfl rfl rfl (by decide +kernel) (Nat.le_of_ble_eq_true rfl) ?_
  refine hw_ald (b := 1) (e := 0) (by decide +kernel) rfl (by decide) ?_
  refine hr_gr (w := 28) (b := 5) (e := 1) 26 rfl (by decide +kernel) ?_
  refine hw_k (c := 0) (b := 0) (e := 1) (by decide +kernel) ?_
  refine hw_ald (b := 0) (e := 0) (by decide +kernel) rfl (by decide) ?_
  refine hr_gr (w := 80) (b := 5) (e := 1) 78 rfl (by decide +kernel) ?_
  refine hw_k (c := 0) (b := 0) (e := 1) (by decide +kernel) ?_
  refine hw_k (c := 40) (b := 1) (e := 2) (by decide +kernel) ?_
  refine hr_cp (a0 := 0) (b0 := 0) (e := 0) 28 80 40 rfl rfl rfl (by decide +kernel) (Nat.le_of_ble_eq_true rfl) ?_
  refine hw_ald (b := 1) (e := 0) (by decide +kernel) rfl (by decide) ?_
  refine hr_gr (w := 29) (b := 5) (e := 2) 26 rfl (by decide +kernel) ?_
  refine hw_k (c := 0) (b := 0) (e := 1) (by decide +kernel) ?_
  refine hw_ald (b := 0) (e := 0) (by decide +kernel) rfl (by decide) ?_
  refine hr_gr (w := 81) (b := 5) (e := 2) 78 rfl (by decide +kernel) ?_
  refine hw_k (c := 0) (b := 0) (e := 1) (by decide +kernel) ?_
  refine hw_k (c := 40) (b := 1) (e := 2) (by decide +kernel) ?_
  refine hr_cp (a0 := 0) (b0 := 0) (e := 0) 29 81 40 rfl rfl rfl (by decide +kernel) (Nat.le_of_ble_eq_true rfl) ?_
  refine hw_ald (b := 0) (e := 0) (by decide +kernel) rfl (by decide) ?_
  refine hw_ald (b := 1) (e := 0) (by decide +kernel) rfl (by decide) ?_
  refine hr_gi (w := φ 26 3) (b := 5) (e := 3) 26 rfl (by decide +kernel) ((hf_cp_ne (fun q => absurd q.1 (by decide))).trans ((hf_cp_ne (fun q => absurd q.1 (by decide))).trans (hf_cp_ne (fun q => absurd q.1 (by decide))))) ?_
  refine hr_pi (b := 5) (e := 3) 78 rfl (by decide +kernel) ?_
  refine hw_ald (b := 0) (e := 0) (by decide +kernel) rfl (by decide) ?_
  refine hw_ald (b := 1) (e := 0) (by decide +kernel) rfl (by decide) ?_
  refine hr_gi (w := φ 26 4) (b := 5) (e := 4) 26 rfl (by decide +kernel) ((hf_up_ne (fun q => absurd q.1 (by decide))).trans ((hf_cp_ne (fun q => absurd q.1 (by decide))).trans ((hf_cp_ne (fun q => absurd q.1 (by decide))).trans (hf_cp_ne (fun q => absurd q.1 (by decide)))))) ?_
  refine hr_pi (b := 5) (e := 4) 78 rfl (by decide +kernel) ?_
  refine hw_ald (b := 0) (e := 0) (by decide +kernel) rfl (by decide) ?_
  refine hw_ald (b := 1) (e := 0) (by decide +kernel) rfl (by decide) ?_
  refine hr_gz (w := φ 26 5) (b := 5) (e := 5) 26 rfl (by decide +kernel) ((hf_up_ne (fun q => absurd q.1 (by decide))).trans ((hf_up_ne (fun q => absurd q.1 (by decide))).trans ((hf_cp_ne (fun q => absurd q.1 (by decide))).trans ((hf_cp_ne (fun q => absurd q.1 (by decide))).trans (hf_cp_ne (fun q => absurd q.1 (by decide))))))) ?_
  obtain ⟨h01_1, H⟩ := H
  refine hr_pz (b := 5) (e := 5) 78 rfl (by decide +kernel) h01_1 ?_
  exact hw_vret (a0 := 0) (e := 0) (by decide +kernel) H
theorem sf_67_78_26 {sc : List Int} {d : Nat} {φ : hf_F} {x : Nat} {Q : Option jm_V → hf_F → Nat → Prop}  (hI : Inv φ)  (hQ : ∀ ψ : hf_F, Inv ψ → Fr [78, 79, 80, 81] φ ψ → Q none ψ x) : hw sc d 67 0 [(0, (2, 78)), (1, (2, 26))] [] φ x Q := by
  apply sf_67_78_26_v
  have i1 : Inv (hf_cp φ 27 79 40) := iv_cp hI (by decide) (by decide +kernel)
  have r1 : Fr [78, 79, 80, 81] φ (hf_cp φ 27 79 40) := fr_cp (fr_rf) (by decide)
  have i2 : Inv (hf_cp (hf_cp φ 27 79 40) 28 80 40) := iv_cp i1 (by decide) (by decide +kernel)
  have r2 : Fr [78, 79, 80, 81] φ (hf_cp (hf_cp φ 27 79 40) 28 80 40) := fr_cp r1 (by decide)
  have i3 : Inv (hf_cp (hf_cp (hf_cp φ 27 79 40) 28 80 40) 29 81 40) := iv_cp i2 (by decide) (by decide +kernel)
  have r3 : Fr [78, 79, 80, 81] φ (hf_cp (hf_cp (hf_cp φ 27 79 40) 28 80 40) 29 81 40) := fr_cp r2 (by decide)
  have f4 := iv_at (a := 26) (k := 3) (lo := 0) (u := 40) hI (by decide +kernel)
  have i5 : Inv (hf_up (hf_cp (hf_cp (hf_cp φ 27 79 40) 28 80 40) 29 81 40) 78 3 (φ 26 3)) := iv_up (lo := 0) (u := 40) i3 (by decide +kernel) (by omega) (by omega)
  have r5 : Fr [78, 79, 80, 81] φ (hf_up (hf_cp (hf_cp (hf_cp φ 27 79 40) 28 80 40) 29 81 40) 78 3 (φ 26 3)) := fr_up r3 (by decide)
  have f6 := iv_at (a := 26) (k := 4) (lo := 0) (u := 20) hI (by decide +kernel)
  have i7 : Inv (hf_up (hf_up (hf_cp (hf_cp (hf_cp φ 27 79 40) 28 80 40) 29 81 40) 78 3 (φ 26 3)) 78 4 (φ 26 4)) := iv_up (lo := 0) (u := 20) i5 (by decide +kernel) (by omega) (by omega)
  have r7 : Fr [78, 79, 80, 81] φ (hf_up (hf_up (hf_cp (hf_cp (hf_cp φ 27 79 40) 28 80 40) 29 81 40) 78 3 (φ 26 3)) 78 4 (φ 26 4)) := fr_up r5 (by decide)
  have f8 := iv_at (a := 26) (k := 5) (lo := 0) (u := 1) hI (by decide +kernel)
  refine ⟨by omega, ?_⟩
  have i9 : Inv (hf_up (hf_up (hf_up (hf_cp (hf_cp (hf_cp φ 27 79 40) 28 80 40) 29 81 40) 78 3 (φ 26 3)) 78 4 (φ 26 4)) 78 5 (φ 26 5)) := iv_up (lo := 0) (u := 1) i7 (by decide +kernel) (by omega) (by omega)
  have r9 : Fr [78, 79, 80, 81] φ (hf_up (hf_up (hf_up (hf_cp (hf_cp (hf_cp φ 27 79 40) 28 80 40) 29 81 40) 78 3 (φ 26 3)) 78 4 (φ 26 4)) 78 5 (φ 26 5)) := fr_up r7 (by decide)
  exact hQ (hf_up (hf_up (hf_up (hf_cp (hf_cp (hf_cp φ 27 79 40) 28 80 40) 29 81 40) 78 3 (φ 26 3)) 78 4 (φ 26 4)) 78 5 (φ 26 5)) i9 r9
theorem sf_64_56_4_v {sc : List Int} {d : Nat} {φ : hf_F} {x : Nat} {Q : Option jm_V → hf_F → Nat → Prop} 
    (H : hw sc d 65 0 [(0, (2, 57)), (1, (2, 5))] [] φ x (fun r ψ1 y1 => y1 = x ∧ (r = none ∧ (hw sc d 66 0 [(0, (2, 69)), (1, (2, 17))] [] ψ1 x (fun r ψ2 y2 => y2 = x ∧ (r = none ∧ (hw sc d 67 0 [(0, (2, 78)), (1, (2, 26))] [] ψ2 x (fun r ψ3 y3 => y3 = x ∧ (r = none ∧ (Q none ψ3 x)))))))))) :
    hw sc (d + 1) 64 0 [(0, (2, 56)), (1, (2, 4))] [] φ x Q := by
  refine hw_ald (b := 0) (e := 0) (by decide +kernel) rfl (by decide) ?_
  refine hr_gr (w := 57) (b := 2) (e := 0) 56 rfl (by decide +kernel) ?_
  refine hw_ald (b := 1) (e := 0) (by decide +kernel) rfl (by decide) ?_
  refine hr_gr (w := 5) (b := 2) (e := 0) 4 rfl (by decide +kernel) ?_
  refine hr_call (a0 := 13) (b := 65) (e := 2) (nl := 2) (As := [(2, 5)]) (R := []) 57 rfl (by decide +kernel) rfl rfl (Nat.le_of_ble_eq_true rfl) (Nat.le_of_ble_eq_true rfl) ?_
  refine hw_mono H ?_
  rintro r ψ1 y1 ⟨hyx, hr, H⟩
  subst hyx
  subst hr
  refine ⟨hnen, ?_⟩
  show hw sc (d + 1) 64 11 [(0, (2, 56)), (1, (2, 4))] [] ψ1 y1 Q
  refine hw_ald (b := 0) (e := 0) (by decide +kernel) rfl (by decide) ?_
  refine hr_gr (w := 69) (b := 2) (e := 1) 56 rfl (by decide +kernel) ?_
  refine hw_ald (b := 1) (e := 0) (by decide +kernel) rfl (by decide) ?_
  refine hr_gr (w := 17) (b := 2) (e := 1) 4 rfl (by decide +kernel) ?_
  refine hr_call (a0 := 14) (b := 66) (e := 2) (nl := 2) (As := [(2, 17)]) (R := []) 69 rfl (by decide +kernel) rfl rfl (Nat.le_of_ble_eq_true rfl) (Nat.le_of_ble_eq_true rfl) ?_
  refine hw_mono H ?_
  rintro r ψ2 y2 ⟨hyx, hr, H⟩
  subst hyx
  subst hr
  refine ⟨hnen, ?_⟩
  show hw sc (d + 1) 64 22 [(0, (2, 56)), (1, (2, 4))] [] ψ2 y2 Q
  refine hw_ald (b := 0) (e := 0) (by decide +kernel) rfl (by decide) ?_
  refine hr_gr (w := 78) (b := 2) (e := 2) 56 rfl (by decide +kernel) ?_
  refine hw_ald (b := 1) (e := 0) (by decide +kernel) rfl (by decide) ?_
  refine hr_gr (w := 26) (b := 2) (e := 2) 4 rfl (by decide +kernel) ?_
  refine hr_call (a0 := 15) (b := 67) (e := 2) (nl := 2) (As := [(2, 26)]) (R := []) 78 rfl (by decide +kernel) rfl rfl (Nat.le_of_ble_eq_true rfl) (Nat.le_of_ble_eq_true rfl) ?_
  refine hw_mono H ?_
  rintro r ψ3 y3 ⟨hyx, hr, H⟩
  subst hyx
  subst hr
  refine ⟨hnen, ?_⟩
  show hw sc (d + 1) 64 33 [(0, (2, 56)), (1, (2, 4))] [] ψ3 y3 Q
  exact hw_vret (a0 := 0) (e := 0) (by decide +kernel) H
theorem sf_64_56_4 {sc : List Int} {d : Nat} {φ : hf_F} {x : Nat} {Q : Option jm_V → hf_F → Nat → Prop}  (hI : Inv φ)  (hQ : ∀ ψ : hf_F, Inv ψ → Fr [58, 59, 60, 61, 62, 63, 64, 65, 66, 67, 68, 69, 70, 71, 72, 73, 74, 75, 76, 77, 78, 79, 80, 81] φ ψ → Q none ψ x) : hw sc (d + 1) 64 0 [(0, (2, 56)), (1, (2, 4))] [] φ x Q := by
  apply sf_64_56_4_v
  refine sf_65_57_5 (φ := φ) hI  (fun ψ1 hI1 hF1 => ⟨rfl, rfl, ?_⟩)
  have hG1 : Fr [58, 59, 60, 61, 62, 63, 64, 65, 66, 67, 68, 69, 70, 71, 72, 73, 74, 75, 76, 77, 78, 79, 80, 81] φ ψ1 := fr_tr (fr_rf) hF1 (by decide)
  refine sf_66_69_17 (φ := ψ1) hI1  (fun ψ2 hI2 hF2 => ⟨rfl, rfl, ?_⟩)
  have hG2 : Fr [58, 59, 60, 61, 62, 63, 64, 65, 66, 67, 68, 69, 70, 71, 72, 73, 74, 75, 76, 77, 78, 79, 80, 81] φ ψ2 := fr_tr hG1 hF2 (by decide)
  refine sf_67_78_26 (φ := ψ2) hI2  (fun ψ3 hI3 hF3 => ⟨rfl, rfl, ?_⟩)
  have hG3 : Fr [58, 59, 60, 61, 62, 63, 64, 65, 66, 67, 68, 69, 70, 71, 72, 73, 74, 75, 76, 77, 78, 79, 80, 81] φ ψ3 := fr_tr hG2 hF3 (by decide)
  exact hQ ψ3 hI3 hG3
theorem sf_156_0_v {sc : List Int} {d : Nat} {φ : hf_F} {x : Nat} {Q : Option jm_V → hf_F → Nat → Prop} {v1 : Int}
    (H : hi v1 ∧ (v1 = 0 → hi v1 ∧ (¬ v1 = 0 → hw sc (d + 1) 64 0 [(0, (2, 82)), (1, (2, 4))] [] φ x (fun r ψ3 y3 => y3 = x ∧ (r = none ∧ (Q (some (0, 1)) (hf_up ψ3 82 3 1) x)))) ∧ (¬ (¬ v1 = 0) → hw sc (d + 1) 64 0 [(0, (2, 56)), (1, (2, 4))] [] φ x (fun r ψ5 y5 => y5 = x ∧ (r = none ∧ (Q (some (0, 1)) (hf_up ψ5 56 3 1) x))))) ∧ (¬ v1 = 0 → hi v1 ∧ hi 1 ∧ (v1 = 1 → hi v1 ∧ (¬ v1 = 0 → hw sc (d + 1) 64 0 [(0, (2, 82)), (1, (2, 4))] [] φ x (fun r ψ9 y9 => y9 = x ∧ (r = none ∧ (Q (some (0, 1)) (hf_up ψ9 82 3 1) x)))) ∧ (¬ (¬ v1 = 0) → hw sc (d + 1) 64 0 [(0, (2, 56)), (1, (2, 4))] [] φ x (fun r ψ11 y11 => y11 = x ∧ (r = none ∧ (Q (some (0, 1)) (hf_up ψ11 56 3 1) x))))) ∧ (¬ v1 = 1 → Q (some (0, 0)) φ x))) :
    hw sc (d + 2) 156 0 [(0, (2, 0)), (1, (0, v1))] [] φ x Q := by
  refine hw_ld (b := 1) (e := 0) (by decide +kernel) rfl ?_
  obtain ⟨hz1, ht1, hf1⟩ := H
  refine hw_if (a0 := 0) (b := 0) (e := 11) (by decide +kernel) hz1 (fun q => ?_) (fun q => ?_)
  · have H := ht1 q
    refine hw_ld (b := 1) (e := 0) (by decide +kernel) rfl ?_
    obtain ⟨hz2, ht2, hf2⟩ := H
    refine hw_if (a0 := 0) (b := 1) (e := 22) (by decide +kernel) hz2 (fun q => ?_) (fun q => ?_)
    · have H := ht2 q
      refine hw_ald (b := 0) (e := 0) (by decide +kernel) rfl (by decide) ?_
      refine hr_gr (w := 82) (b := 0) (e := 4) 0 rfl (by decide +kernel) ?_
      refine hw_ast (L' := (jm_st1 [(0, (2, 0)), (1, (0, v1))] 2 (2, 82))) (b := 2) (e := 0) (by decide +kernel) rfl (by decide) ?_
      refine hw_ald (b := 2) (e := 0) (by decide +kernel) get_st1e (by decide) ?_
      refine hw_ald (b := 0) (e := 0) (by decide +kernel) (get_st1 rfl (by decide) (fun q => absurd q.1 (by decide))) (by decide) ?_
      refine hr_gr (w := 4) (b := 0) (e := 1) 0 rfl (by decide +kernel) ?_
      refine hr_call (a0 := 12) (b := 64) (e := 2) (nl := 2) (As := [(2, 4)]) (R := []) 82 rfl (by decide +kernel) rfl rfl (Nat.le_of_ble_eq_true rfl) (Nat.le_of_ble_eq_true rfl) ?_
      refine hw_mono H ?_
      rintro r ψ3 y3 ⟨hyx, hr, H⟩
      subst hyx
      subst hr
      refine ⟨hnen, ?_⟩
      show hw sc (d + 2) 156 35 (jm_st1 [(0, (2, 0)), (1, (0, v1))] 2 (2, 82)) [] ψ3 y3 Q
      refine hw_ald (b := 2) (e := 0) (by decide +kernel) get_st1e (by decide) ?_
      refine hw_k (c := 1) (b := 0) (e := 1) (by decide +kernel) ?_
      refine hr_pz (b := 2) (e := 3) 82 rfl (by decide +kernel) (by decide) ?_
      refine hw_k (c := 1) (b := 0) (e := 1) (by decide +kernel) ?_
      exact hw_ret (a0 := 0) (e := 1) (by decide +kernel) (Or.inr ⟨rfl, by decide⟩) H
    · have H := hf2 q
      refine hw_ald (b := 0) (e := 0) (by decide +kernel) rfl (by decide) ?_
      refine hr_gr (w := 56) (b := 0) (e := 3) 0 rfl (by decide +kernel) ?_
      refine hw_goto (a0 := 0) (b := 0) (e := 26) (by decide +kernel) ?_
      refine hw_ast (L' := (jm_st1 [(0, (2, 0)), (1, (0, v1))] 2 (2, 56))) (b := 2) (e := 0) (by decide +kernel) rfl (by decide) ?_
      refine hw_ald (b := 2) (e := 0) (by decide +kernel) get_st1e (by decide) ?_
      refine hw_ald (b := 0) (e := 0) (by decide +kernel) (get_st1 rfl (by decide) (fun q => absurd q.1 (by decide))) (by decide) ?_
      refine hr_gr (w := 4) (b := 0) (e := 1) 0 rfl (by decide +kernel) ?_
      refine hr_call (a0 := 12) (b := 64) (e := 2) (nl := 2) (As := [(2, 4)]) (R := []) 56 rfl (by decide +kernel) rfl rfl (Nat.le_of_ble_eq_true rfl) (Nat.le_of_ble_eq_true rfl) ?_
      refine hw_mono H ?_
      rintro r ψ5 y5 ⟨hyx, hr, H⟩
      subst hyx
      subst hr
      refine ⟨hnen, ?_⟩
      show hw sc (d + 2) 156 35 (jm_st1 [(0, (2, 0)), (1, (0, v1))] 2 (2, 56)) [] ψ5 y5 Q
      refine hw_ald (b := 2) (e := 0) (by decide +kernel) get_st1e (by decide) ?_
      refine hw_k (c := 1) (b := 0) (e := 1) (by decide +kernel) ?_
      refine hr_pz (b := 2) (e := 3) 56 rfl (by decide +kernel) (by decide) ?_
      refine hw_k (c := 1) (b := 0) (e := 1) (by decide +kernel) ?_
      exact hw_ret (a0 := 0) (e := 1) (by decide +kernel) (Or.inr ⟨rfl, by decide⟩) H
  · have H := hf1 q
    refine hw_ld (b := 1) (e := 0) (by decide +kernel) rfl ?_
    refine hw_k (c := 1) (b := 0) (e := 1) (by decide +kernel) ?_
    obtain ⟨hz7, hy7, ht7, hf7⟩ := H
    refine hw_if2 (a0 := 0) (b := 0) (e := 11) (by decide +kernel) hz7 hy7 (fun q => ?_) (fun q => ?_)
    · have H := ht7 q
      refine hw_ld (b := 1) (e := 0) (by decide +kernel) rfl ?_
      obtain ⟨hz8, ht8, hf8⟩ := H
      refine hw_if (a0 := 0) (b := 1) (e := 22) (by decide +kernel) hz8 (fun q => ?_) (fun q => ?_)
      · have H := ht8 q
        refine hw_ald (b := 0) (e := 0) (by decide +kernel) rfl (by decide) ?_
        refine hr_gr (w := 82) (b := 0) (e := 4) 0 rfl (by decide +kernel) ?_
        refine hw_ast (L' := (jm_st1 [(0, (2, 0)), (1, (0, v1))] 2 (2, 82))) (b := 2) (e := 0) (by decide +kernel) rfl (by decide) ?_
        refine hw_ald (b := 2) (e := 0) (by decide +kernel) get_st1e (by decide) ?_
        refine hw_ald (b := 0) (e := 0) (by decide +kernel) (get_st1 rfl (by decide) (fun q => absurd q.1 (by decide))) (by decide) ?_
        refine hr_gr (w := 4) (b := 0) (e := 1) 0 rfl (by decide +kernel) ?_
        refine hr_call (a0 := 12) (b := 64) (e := 2) (nl := 2) (As := [(2, 4)]) (R := []) 82 rfl (by decide +kernel) rfl rfl (Nat.le_of_ble_eq_true rfl) (Nat.le_of_ble_eq_true rfl) ?_
        refine hw_mono H ?_
        rintro r ψ9 y9 ⟨hyx, hr, H⟩
        subst hyx
        subst hr
        refine ⟨hnen, ?_⟩
        show hw sc (d + 2) 156 35 (jm_st1 [(0, (2, 0)), (1, (0, v1))] 2 (2, 82)) [] ψ9 y9 Q
        refine hw_ald (b := 2) (e := 0) (by decide +kernel) get_st1e (by decide) ?_
        refine hw_k (c := 1) (b := 0) (e := 1) (by decide +kernel) ?_
        refine hr_pz (b := 2) (e := 3) 82 rfl (by decide +kernel) (by decide) ?_
        refine hw_k (c := 1) (b := 0) (e := 1) (by decide +kernel) ?_
        exact hw_ret (a0 := 0) (e := 1) (by decide +kernel) (Or.inr ⟨rfl, by decide⟩) H
      · have H := hf8 q
        refine hw_ald (b := 0) (e := 0) (by decide +kernel) rfl (by decide) ?_
        refine hr_gr (w := 56) (b := 0) (e := 3) 0 rfl (by decide +kernel) ?_
        refine hw_goto (a0 := 0) (b := 0) (e := 26) (by decide +kernel) ?_
        refine hw_ast (L' := (jm_st1 [(0, (2, 0)), (1, (0, v1))] 2 (2, 56))) (b := 2) (e := 0) (by decide +kernel) rfl (by decide) ?_
        refine hw_ald (b := 2) (e := 0) (by decide +kernel) get_st1e (by decide) ?_
        refine hw_ald (b := 0) (e := 0) (by decide +kernel) (get_st1 rfl (by decide) (fun q => absurd q.1 (by decide))) (by decide) ?_
        refine hr_gr (w := 4) (b := 0) (e := 1) 0 rfl (by decide +kernel) ?_
        refine hr_call (a0 := 12) (b := 64) (e := 2) (nl := 2) (As := [(2, 4)]) (R := []) 56 rfl (by decide +kernel) rfl rfl (Nat.le_of_ble_eq_true rfl) (Nat.le_of_ble_eq_true rfl) ?_
        refine hw_mono H ?_
        rintro r ψ11 y11 ⟨hyx, hr, H⟩
        subst hyx
        subst hr
        refine ⟨hnen, ?_⟩
        show hw sc (d + 2) 156 35 (jm_st1 [(0, (2, 0)), (1, (0, v1))] 2 (2, 56)) [] ψ11 y11 Q
        refine hw_ald (b := 2) (e := 0) (by decide +kernel) get_st1e (by decide) ?_
        refine hw_k (c := 1) (b := 0) (e := 1) (by decide +kernel) ?_
        refine hr_pz (b := 2) (e := 3) 56 rfl (by decide +kernel) (by decide) ?_
        refine hw_k (c := 1) (b := 0) (e := 1) (by decide +kernel) ?_
        exact hw_ret (a0 := 0) (e := 1) (by decide +kernel) (Or.inr ⟨rfl, by decide⟩) H
    · have H := hf7 q
      refine hw_k (c := 0) (b := 0) (e := 1) (by decide +kernel) ?_
      exact hw_ret (a0 := 0) (e := 1) (by decide +kernel) (Or.inr ⟨rfl, by decide⟩) H
theorem sf_156_0 {sc : List Int} {d : Nat} {φ : hf_F} {x : Nat} {Q : Option jm_V → hf_F → Nat → Prop} {v1 : Int} (hI : Inv φ) (h1a : (-2147483648 : Int) ≤ v1) (h1b : v1 ≤ 2147483647) (hQ : ∀ (r : Int) (ψ : hf_F), Inv ψ → Fr [56, 58, 59, 60, 61, 62, 63, 64, 65, 66, 67, 68, 69, 70, 71, 72, 73, 74, 75, 76, 77, 78, 79, 80, 81, 82, 84, 85, 86, 87, 88, 89, 90, 91, 92, 93, 94, 95, 96, 97, 98, 99, 100, 101, 102, 103, 104, 105, 106, 107] φ ψ → 0 ≤ r ∧ r ≤ 1 → Q (some (0, r)) ψ x) : hw sc (d + 2) 156 0 [(0, (2, 0)), (1, (0, v1))] [] φ x Q := by
  apply sf_156_0_v
  refine ⟨by unfold hi; omega, fun q1 => ?_, fun q1 => ?_⟩
  · skip
    refine ⟨by unfold hi; omega, fun q2 => ?_, fun q2 => ?_⟩
    · skip
      refine sf_64_82_4 (φ := φ) hI  (fun ψ3 hI3 hF3 => ⟨rfl, rfl, ?_⟩)
      have hG3 : Fr [56, 58, 59, 60, 61, 62, 63, 64, 65, 66, 67, 68, 69, 70, 71, 72, 73, 74, 75, 76, 77, 78, 79, 80, 81, 82, 84, 85, 86, 87, 88, 89, 90, 91, 92, 93, 94, 95, 96, 97, 98, 99, 100, 101, 102, 103, 104, 105, 106, 107] φ ψ3 := fr_tr (fr_rf) hF3 (by decide)
      have i1 : Inv (hf_up ψ3 82 3 1) := iv_up (lo := 0) (u := 1) hI3 (by decide +kernel) (by omega) (by omega)
      have r1 : Fr [56, 58, 59, 60, 61, 62, 63, 64, 65, 66, 67, 68, 69, 70, 71, 72, 73, 74, 75, 76, 77, 78, 79, 80, 81, 82, 84, 85, 86, 87, 88, 89, 90, 91, 92, 93, 94, 95, 96, 97, 98, 99, 100, 101, 102, 103, 104, 105, 106, 107] φ (hf_up ψ3 82 3 1) := fr_up hG3 (by decide)
      exact hQ 1 (hf_up ψ3 82 3 1) i1 r1 ⟨by omega, by omega⟩
    · skip
      refine sf_64_56_4 (φ := φ) hI  (fun ψ5 hI5 hF5 => ⟨rfl, rfl, ?_⟩)
      have hG5 : Fr [56, 58, 59, 60, 61, 62, 63, 64, 65, 66, 67, 68, 69, 70, 71, 72, 73, 74, 75, 76, 77, 78, 79, 80, 81, 82, 84, 85, 86, 87, 88, 89, 90, 91, 92, 93, 94, 95, 96, 97, 98, 99, 100, 101, 102, 103, 104, 105, 106, 107] φ ψ5 := fr_tr (fr_rf) hF5 (by decide)
      have i2 : Inv (hf_up ψ5 56 3 1) := iv_up (lo := 0) (u := 1) hI5 (by decide +kernel) (by omega) (by omega)
      have r2 : Fr [56, 58, 59, 60, 61, 62, 63, 64, 65, 66, 67, 68, 69, 70, 71, 72, 73, 74, 75, 76, 77, 78, 79, 80, 81, 82, 84, 85, 86, 87, 88, 89, 90, 91, 92, 93, 94, 95, 96, 97, 98, 99, 100, 101, 102, 103, 104, 105, 106, 107] φ (hf_up ψ5 56 3 1) := fr_up hG5 (by decide)
      exact hQ 1 (hf_up ψ5 56 3 1) i2 r2 ⟨by omega, by omega⟩
  · skip
    refine ⟨by unfold hi; omega, by unfold hi; omega, fun q7 => ?_, fun q7 => ?_⟩
    · skip
      refine ⟨by unfold hi; omega, fun q8 => ?_, fun q8 => ?_⟩
      · skip
        refine sf_64_82_4 (φ := φ) hI  (fun ψ9 hI9 hF9 => ⟨rfl, rfl, ?_⟩)
        have hG9 : Fr [56, 58, 59, 60, 61, 62, 63, 64, 65, 66, 67, 68, 69, 70, 71, 72, 73, 74, 75, 76, 77, 78, 79, 80, 81, 82, 84, 85, 86, 87, 88, 89, 90, 91, 92, 93, 94, 95, 96, 97, 98, 99, 100, 101, 102, 103, 104, 105, 106, 107] φ ψ9 := fr_tr (fr_rf) hF9 (by decide)
        have i3 : Inv (hf_up ψ9 82 3 1) := iv_up (lo := 0) (u := 1) hI9 (by decide +kernel) (by omega) (by omega)
        have r3 : Fr [56, 58, 59, 60, 61, 62, 63, 64, 65, 66, 67, 68, 69, 70, 71, 72, 73, 74, 75, 76, 77, 78, 79, 80, 81, 82, 84, 85, 86, 87, 88, 89, 90, 91, 92, 93, 94, 95, 96, 97, 98, 99, 100, 101, 102, 103, 104, 105, 106, 107] φ (hf_up ψ9 82 3 1) := fr_up hG9 (by decide)
        exact hQ 1 (hf_up ψ9 82 3 1) i3 r3 ⟨by omega, by omega⟩
      · skip
        refine sf_64_56_4 (φ := φ) hI  (fun ψ11 hI11 hF11 => ⟨rfl, rfl, ?_⟩)
        have hG11 : Fr [56, 58, 59, 60, 61, 62, 63, 64, 65, 66, 67, 68, 69, 70, 71, 72, 73, 74, 75, 76, 77, 78, 79, 80, 81, 82, 84, 85, 86, 87, 88, 89, 90, 91, 92, 93, 94, 95, 96, 97, 98, 99, 100, 101, 102, 103, 104, 105, 106, 107] φ ψ11 := fr_tr (fr_rf) hF11 (by decide)
        have i4 : Inv (hf_up ψ11 56 3 1) := iv_up (lo := 0) (u := 1) hI11 (by decide +kernel) (by omega) (by omega)
        have r4 : Fr [56, 58, 59, 60, 61, 62, 63, 64, 65, 66, 67, 68, 69, 70, 71, 72, 73, 74, 75, 76, 77, 78, 79, 80, 81, 82, 84, 85, 86, 87, 88, 89, 90, 91, 92, 93, 94, 95, 96, 97, 98, 99, 100, 101, 102, 103, 104, 105, 106, 107] φ (hf_up ψ11 56 3 1) := fr_up hG11 (by decide)
        exact hQ 1 (hf_up ψ11 56 3 1) i4 r4 ⟨by omega, by omega⟩
    · skip
      exact hQ 0 φ hI (fr_rf) ⟨by omega, by omega⟩
theorem sf_97_187_v12 {sc : List Int} {d : Nat} {φ : hf_F} {x : Nat} {Q : Option jm_V → hf_F → Nat → Prop} {L : jm_L} {l1 l2 l3 : Int} (g0 : jm_get L 0 = some (2, 187)) (g1 : jm_get L 1 = some (0, l1)) (g2 : jm_get L 2 = some (0, l2)) (g3 : jm_get L 3 = some (0, l3))
    (H : 0 ≤ l1 ∧ l1 < 8 ∧ (hi l3 ∧ hi (φ 12 ((l1).toNat)) ∧ ((φ 12 ((l1).toNat)) ≤ l3 → Q (some (0, (-1 : Int))) φ x) ∧ (¬ (φ 12 ((l1).toNat)) ≤ l3 → hi l2 ∧ (¬ l2 = 0 → hw sc d 92 0 [(0, (2, 5)), (1, (0, l1)), (2, (0, l2))] [] φ x (fun r ψ5 y5 => y5 = x ∧ (∃ z5 : Int, r = some (0, z5) ∧ (hw sc (d + 1) 97 12 (jm_st1 (jm_st1 L 2 (0, z5)) 3 (0, l3 + 1)) [] ψ5 x Q)))) ∧ (¬ (¬ l2 = 0) → Q (some (0, l3)) φ x)))) :
    hw sc (d + 1) 97 12 L [] φ x Q := by
  refine hw_ld (b := 3) (e := 0) (by decide +kernel) g3 ?_
  refine hw_ald (b := 0) (e := 0) (by decide +kernel) g0 (by decide) ?_
  refine hr_gr (w := 5) (b := 9) (e := 0) 187 rfl (by decide +kernel) ?_
  refine hr_gr (w := 12) (b := 3) (e := 6) 5 rfl (by decide +kernel) ?_
  refine hw_ld (b := 1) (e := 0) (by decide +kernel) g1 ?_
  obtain ⟨hl1, hu1, H⟩ := H
  refine hr_al (b := 0) (a0 := 0) (e := 0) (n := 8) (w := φ 12 ((l1).toNat)) 12 rfl (by decide +kernel) (by decide) hl1 hu1 rfl ?_
  obtain ⟨hz2, hy2, ht2, hf2⟩ := H
  refine hw_if2 (a0 := 0) (b := 3) (e := 47) (by decide +kernel) hz2 hy2 (fun q => ?_) (fun q => ?_)
  · have H := ht2 q
    refine hw_k (c := (-1 : Int)) (b := 0) (e := 1) (by decide +kernel) ?_
    exact hw_ret (a0 := 0) (e := 0) (by decide +kernel) (Or.inl rfl) H
  · have H := hf2 q
    refine hw_ld (b := 2) (e := 0) (by decide +kernel) g2 ?_
    obtain ⟨hz4, ht4, hf4⟩ := H
    refine hw_if (a0 := 0) (b := 1) (e := 31) (by decide +kernel) hz4 (fun q => ?_) (fun q => ?_)
    · have H := ht4 q
      refine hw_ald (b := 0) (e := 0) (by decide +kernel) g0 (by decide) ?_
      refine hr_gr (w := 5) (b := 9) (e := 0) 187 rfl (by decide +kernel) ?_
      refine hw_ld (b := 1) (e := 0) (by decide +kernel) g1 ?_
      refine hw_ld (b := 2) (e := 0) (by decide +kernel) g2 ?_
      refine hr_call (a0 := 13) (b := 92) (e := 3) (nl := 4) (As := [(0, l1), (0, l2)]) (R := []) 5 rfl (by decide +kernel) rfl rfl (Nat.le_of_ble_eq_true rfl) (Nat.le_of_ble_eq_true rfl) ?_
      refine hw_mono H ?_
      rintro r ψ5 y5 ⟨hyx, z5, hr, H⟩
      subst hyx
      subst hr
      refine ⟨hne0, ?_⟩
      show hw sc (d + 1) 97 40 L [(0, z5)] ψ5 y5 Q
      refine hw_st (L' := (jm_st1 L 2 (0, z5))) (b := 2) (e := 0) (by decide +kernel) rfl ?_
      refine hw_inc (L' := (jm_st1 (jm_st1 L 2 (0, z5)) 3 (0, l3 + 1))) (c := 1) (b := 3) (e := 0) (by decide +kernel) (get_st1 g3 (by decide) (fun q => absurd q.1 (by decide))) rfl ?_
      refine hw_goto (a0 := 0) (b := 0) (e := 12) (by decide +kernel) ?_
      exact H
    · have H := hf4 q
      refine hw_ld (b := 3) (e := 0) (by decide +kernel) g3 ?_
      exact hw_ret (a0 := 0) (e := 0) (by decide +kernel) (Or.inl rfl) H
theorem sf_97_187_l12 {sc : List Int} {d x : Nat} {Q : Option jm_V → hf_F → Nat → Prop} : ∀ (n : Nat) (φ : hf_F) (L : jm_L) (l1 l2 l3 : Int), jm_get L 0 = some (2, 187) → jm_get L 1 = some (0, l1) → jm_get L 2 = some (0, l2) → jm_get L 3 = some (0, l3) → Inv φ → 30 - l3 < (n : Int) → 0 ≤ l1 → l1 ≤ 7 → 0 ≤ l2 → l2 ≤ 1000 → 0 ≤ l3 → l3 ≤ 30 → l2 ≤ 29 + 29 * l3 → (∀ (r : Int) (ψ : hf_F), Inv ψ → Fr [] φ ψ → True → Q (some (0, r)) ψ x) → hw sc (d + 1) 97 12 L [] φ x Q := by
  intro n
  induction n with
  | zero =>
    intro φ L l1 l2 l3 g0 g1 g2 g3 hI hM b1a b1b b2a b2b b3a b3b c0 hQ
    exfalso
    omega
  | succ n ih =>
    intro φ L l1 l2 l3 g0 g1 g2 g3 hI hM b1a b1b b2a b2b b3a b3b c0 hQ
    refine sf_97_187_v12 g0 g1 g2 g3 ?_
    refine ⟨by omega, by omega, ?_⟩
    have f1 := iv_ar (a := 12) (s := 0) (t := 8) (lo := 0) (u := 30) (z := l1) hI (by decide +kernel) (by omega) (by omega)
    refine ⟨by unfold hi; omega, by unfold hi; omega, fun q2 => ?_, fun q2 => ?_⟩
    · skip
      exact hQ (-1 : Int) φ hI (fr_rf) trivial
    · skip
      refine ⟨by unfold hi; omega, fun q4 => ?_, fun q4 => ?_⟩
      · skip
        refine sf_92_5 (φ := φ) hI (by omega) (by omega) (by omega) (by omega) (fun z5 ψ5 hI5 hF5 hp5 => ⟨rfl, z5, rfl, ?_⟩)
        have hG5 : Fr [] φ ψ5 := fr_tr (fr_rf) hF5 (by decide)
        exact ih ψ5 (jm_st1 (jm_st1 L 2 (0, z5)) 3 (0, l3 + 1)) l1 z5 (l3 + 1) (get_st1 (get_st1 g0 (by decide) (fun q => absurd q.1 (by decide))) (by decide) (fun q => absurd q.1 (by decide))) (get_st1 (get_st1 g1 (by decide) (fun q => tg0 q.2)) (by decide) (fun q => absurd q.1 (by decide))) (get_st1 get_st1e (by decide) (fun q => tg0 q.2)) get_st1e hI5 (by omega) (by omega) (by omega) (by omega) (by omega) (by omega) (by omega) (by omega) (fun rr χ hIχ hFχ hpχ => hQ rr χ hIχ (fr_tr hG5 hFχ (by decide)) hpχ)
      · skip
        exact hQ l3 φ hI (fr_rf) trivial
theorem sf_97_187_v {sc : List Int} {d : Nat} {φ : hf_F} {x : Nat} {Q : Option jm_V → hf_F → Nat → Prop} {v1 : Int}
    (H : 0 ≤ v1 ∧ v1 < 8 ∧ (hw sc (d + 1) 97 12 (jm_st1 (jm_st1 [(0, (2, 187)), (1, (0, v1))] 2 (0, φ 18 ((v1).toNat))) 3 (0, 0)) [] φ x Q)) :
    hw sc (d + 1) 97 0 [(0, (2, 187)), (1, (0, v1))] [] φ x Q := by
  refine hw_ald (b := 0) (e := 0) (by decide +kernel) rfl (by decide) ?_
  refine hr_gr (w := 17) (b := 9) (e := 1) 187 rfl (by decide +kernel) ?_
  refine hr_gr (w := 18) (b := 4) (e := 6) 17 rfl (by decide +kernel) ?_
  refine hw_ld (b := 1) (e := 0) (by decide +kernel) rfl ?_
  obtain ⟨hl1, hu1, H⟩ := H
  refine hr_al (b := 0) (a0 := 0) (e := 0) (n := 8) (w := φ 18 ((v1).toNat)) 18 rfl (by decide +kernel) (by decide) hl1 hu1 rfl ?_
  refine hw_st (L' := (jm_st1 [(0, (2, 187)), (1, (0, v1))] 2 (0, φ 18 ((v1).toNat)))) (b := 2) (e := 0) (by decide +kernel) rfl ?_
  refine hw_k (c := 0) (b := 0) (e := 1) (by decide +kernel) ?_
  refine hw_st (L' := (jm_st1 (jm_st1 [(0, (2, 187)), (1, (0, v1))] 2 (0, φ 18 ((v1).toNat))) 3 (0, 0))) (b := 3) (e := 0) (by decide +kernel) rfl ?_
  exact H
theorem sf_97_187 {sc : List Int} {d : Nat} {φ : hf_F} {x : Nat} {Q : Option jm_V → hf_F → Nat → Prop} {v1 : Int} (hI : Inv φ) (h1a : 0 ≤ v1) (h1b : v1 ≤ 7) (hQ : ∀ (r : Int) (ψ : hf_F), Inv ψ → Fr [] φ ψ → True → Q (some (0, r)) ψ x) : hw sc (d + 1) 97 0 [(0, (2, 187)), (1, (0, v1))] [] φ x Q := by
  apply sf_97_187_v
  refine ⟨by omega, by omega, ?_⟩
  have f1 := iv_ar (a := 18) (s := 0) (t := 8) (lo := 0) (u := 29) (z := v1) hI (by decide +kernel) (by omega) (by omega)
  exact sf_97_187_l12 ((30 - 0 : Int).toNat + 1) φ (jm_st1 (jm_st1 [(0, (2, 187)), (1, (0, v1))] 2 (0, φ 18 ((v1).toNat))) 3 (0, 0)) v1 (φ 18 ((v1).toNat)) 0 (get_st1 (get_st1 rfl (by decide) (fun q => absurd q.1 (by decide))) (by decide) (fun q => absurd q.1 (by decide))) (get_st1 (get_st1 rfl (by decide) (fun q => tg0 q.2)) (by decide) (fun q => absurd q.1 (by decide))) (get_st1 get_st1e (by decide) (fun q => tg0 q.2)) get_st1e hI (by omega) (by omega) (by omega) (by omega) (by omega) (by omega) (by omega) (by omega) (fun rr χ hIχ hFχ hpχ => hQ rr χ hIχ (fr_tr (fr_rf) hFχ (by decide)) hpχ)
theorem sf_96_0_v {sc : List Int} {d : Nat} {φ : hf_F} {x : Nat} {Q : Option jm_V → hf_F → Nat → Prop} {v1 : Int}
    (H : hw sc (d + 1) 70 0 [(0, (2, 0)), (1, (0, 1)), (2, (0, v1))] [] φ x (fun r ψ1 y1 => y1 = x ∧ (∃ z1 : Int, r = some (0, z1) ∧ (hi z1 ∧ (z1 = 0 → Q (some (0, (-1 : Int))) ψ1 x) ∧ (¬ z1 = 0 → hw sc (d + 1) 97 0 [(0, (2, 187)), (1, (0, v1))] [] ψ1 x (fun r ψ4 y4 => y4 = x ∧ (∃ z4 : Int, r = some (0, z4) ∧ (Q (some (0, z4)) ψ4 x)))))))) :
    hw sc (d + 2) 96 0 [(0, (2, 0)), (1, (0, v1))] [] φ x Q := by
  refine hw_ald (b := 0) (e := 0) (by decide +kernel) rfl (by decide) ?_
  refine hw_k (c := 1) (b := 0) (e := 1) (by decide +kernel) ?_
  refine hw_ld (b := 1) (e := 0) (by decide +kernel) rfl ?_
  refine hr_call (a0 := 10) (b := 70) (e := 3) (nl := 3) (As := [(0, 1), (0, v1)]) (R := []) 0 rfl (by decide +kernel) rfl rfl (Nat.le_of_ble_eq_true rfl) (Nat.le_of_ble_eq_true rfl) ?_
  refine hw_mono H ?_
  rintro r ψ1 y1 ⟨hyx, z1, hr, H⟩
  subst hyx
  subst hr
  refine ⟨hne0, ?_⟩
  show hw sc (d + 2) 96 6 [(0, (2, 0)), (1, (0, v1))] [(0, z1)] ψ1 y1 Q
  obtain ⟨hz2, ht2, hf2⟩ := H
  refine hw_if (a0 := 0) (b := 0) (e := 20) (by decide +kernel) hz2 (fun q => ?_) (fun q => ?_)
  · have H := ht2 q
    refine hw_k (c := (-1 : Int)) (b := 0) (e := 1) (by decide +kernel) ?_
    exact hw_ret (a0 := 0) (e := 0) (by decide +kernel) (Or.inl rfl) H
  · have H := hf2 q
    refine hw_ald (b := 0) (e := 0) (by decide +kernel) rfl (by decide) ?_
    refine hr_gr (w := 187) (b := 0) (e := 8) 0 rfl (by decide +kernel) ?_
    refine hw_ld (b := 1) (e := 0) (by decide +kernel) rfl ?_
    refine hr_call (a0 := 19) (b := 97) (e := 2) (nl := 4) (As := [(0, v1)]) (R := []) 187 rfl (by decide +kernel) rfl rfl (Nat.le_of_ble_eq_true rfl) (Nat.le_of_ble_eq_true rfl) ?_
    refine hw_mono H ?_
    rintro r ψ4 y4 ⟨hyx, z4, hr, H⟩
    subst hyx
    subst hr
    refine ⟨hne0, ?_⟩
    show hw sc (d + 2) 96 17 [(0, (2, 0)), (1, (0, v1))] [(0, z4)] ψ4 y4 Q
    refine hw_goto (a0 := 0) (b := 0) (e := 21) (by decide +kernel) ?_
    exact hw_ret (a0 := 0) (e := 0) (by decide +kernel) (Or.inl rfl) H
theorem sf_96_0 {sc : List Int} {d : Nat} {φ : hf_F} {x : Nat} {Q : Option jm_V → hf_F → Nat → Prop} {v1 : Int} (hI : Inv φ) (h1a : (-2147483648 : Int) ≤ v1) (h1b : v1 ≤ 2147483647) (hQ : ∀ (r : Int) (ψ : hf_F), Inv ψ → Fr [] φ ψ → True → Q (some (0, r)) ψ x) : hw sc (d + 2) 96 0 [(0, (2, 0)), (1, (0, v1))] [] φ x Q := by
  apply sf_96_0_v
  refine sf_70_0_k1_1 (φ := φ) hI (by omega) (by omega) (fun z1 ψ1 hI1 hF1 hp1 => ⟨rfl, z1, rfl, ?_⟩)
  have hG1 : Fr [] φ ψ1 := fr_tr (fr_rf) hF1 (by decide)
  refine ⟨by unfold hi; omega, fun q2 => ?_, fun q2 => ?_⟩
  · skip
    exact hQ (-1 : Int) ψ1 hI1 hG1 trivial
  · skip
    refine sf_97_187 (φ := ψ1) hI1 (by omega) (by omega) (fun z4 ψ4 hI4 hF4 hp4 => ⟨rfl, z4, rfl, ?_⟩)
    have hG4 : Fr [] φ ψ4 := fr_tr hG1 hF4 (by decide)
    exact hQ z4 ψ4 hI4 hG4 trivial
theorem sf_12_32_k1_0_v5 {sc : List Int} {d : Nat} {φ : hf_F} {x : Nat} {Q : Option jm_V → hf_F → Nat → Prop} {L : jm_L} {l2 : Int} (g0 : jm_get L 0 = some (2, 32)) (g1 : jm_get L 1 = some (0, 0)) (g2 : jm_get L 2 = some (0, l2)) (g3 : jm_get L 3 = some (0, 5))
    (H : hi l2 ∧ hi 5 ∧ (5 ≤ l2 → Q none φ x) ∧ (¬ 5 ≤ l2 → 0 ≤ l2 ∧ l2 < 5 ∧ (hw sc d 12 5 (jm_st1 L 2 (0, l2 + 1)) [] (hf_up φ 32 ((l2).toNat) 0) x Q))) :
    hw sc d 12 5 L [] φ x Q := by
  refine hw_ld (b := 2) (e := 0) (by decide +kernel) g2 ?_
  refine hw_ld (b := 3) (e := 0) (by decide +kernel) g3 ?_
  obtain ⟨hz1, hy1, ht1, hf1⟩ := H
  refine hw_if2 (a0 := 0) (b := 3) (e := 20) (by decide +kernel) hz1 hy1 (fun q => ?_) (fun q => ?_)
  · have H := ht1 q
    exact hw_vret (a0 := 0) (e := 0) (by decide +kernel) H
  · have H := hf1 q
    refine hw_ald (b := 0) (e := 0) (by decide +kernel) g0 (by decide) ?_
    refine hw_ld (b := 2) (e := 0) (by decide +kernel) g2 ?_
    refine hw_ld (b := 1) (e := 0) (by decide +kernel) g1 ?_
    obtain ⟨hl3, hu3, H⟩ := H
    refine hr_as (a0 := 0) (e := 4) (n := 5) 32 rfl (by decide +kernel) hl3 hu3 ?_
    refine hw_inc (L' := (jm_st1 L 2 (0, l2 + 1))) (c := 1) (b := 2) (e := 0) (by decide +kernel) g2 rfl ?_
    refine hw_goto (a0 := 0) (b := 0) (e := 5) (by decide +kernel) ?_
    exact H
theorem sf_12_32_k1_0_l5 {sc : List Int} {d x : Nat} {Q : Option jm_V → hf_F → Nat → Prop} : ∀ (n : Nat) (φ : hf_F) (L : jm_L) (l2 : Int), jm_get L 0 = some (2, 32) → jm_get L 1 = some (0, 0) → jm_get L 2 = some (0, l2) → jm_get L 3 = some (0, 5) → Inv φ → 5 - l2 < (n : Int) → 0 ≤ l2 → l2 ≤ 5 → (∀ ψ : hf_F, Inv ψ → Fr [32] φ ψ → Q none ψ x) → hw sc d 12 5 L [] φ x Q := by
  intro n
  induction n with
  | zero =>
    intro φ L l2 g0 g1 g2 g3 hI hM b2a b2b hQ
    exfalso
    omega
  | succ n ih =>
    intro φ L l2 g0 g1 g2 g3 hI hM b2a b2b hQ
    refine sf_12_32_k1_0_v5 g0 g1 g2 g3 ?_
    refine ⟨by unfold hi; omega, by unfold hi; omega, fun q1 => ?_, fun q1 => ?_⟩
    · skip
      exact hQ φ hI (fr_rf)
    · skip
      refine ⟨by omega, by omega, ?_⟩
      have i1 : Inv (hf_up φ 32 ((l2).toNat) 0) := iv_upS (s := 0) (t := 5) (z := l2) hI (by decide) (by decide +kernel) (by omega) (by omega)
      have r1 : Fr [32] φ (hf_up φ 32 ((l2).toNat) 0) := fr_up (fr_rf) (by decide)
      exact ih (hf_up φ 32 ((l2).toNat) 0) (jm_st1 L 2 (0, l2 + 1)) (l2 + 1) (get_st1 g0 (by decide) (fun q => absurd q.1 (by decide))) (get_st1 g1 (by decide) (fun q => tg0 q.2)) get_st1e (get_st1 g3 (by decide) (fun q => absurd q.1 (by decide))) i1 (by omega) (by omega) (by omega) (fun χ hIχ hFχ => hQ χ hIχ (fr_tr r1 hFχ (by decide)))
theorem sf_12_32_k1_0_v {sc : List Int} {d : Nat} {φ : hf_F} {x : Nat} {Q : Option jm_V → hf_F → Nat → Prop} 
    (H : hw sc d 12 5 (jm_st1 (jm_st1 [(0, (2, 32)), (1, (0, 0))] 2 (0, 0)) 3 (0, 5)) [] φ x Q) :
    hw sc d 12 0 [(0, (2, 32)), (1, (0, 0))] [] φ x Q := by
  refine hw_k (c := 0) (b := 0) (e := 1) (by decide +kernel) ?_
  refine hw_st (L' := (jm_st1 [(0, (2, 32)), (1, (0, 0))] 2 (0, 0))) (b := 2) (e := 0) (by decide +kernel) rfl ?_
  refine hw_ald (b := 0) (e := 0) (by decide +kernel) (get_st1 rfl (by decide) (fun q => absurd q.1 (by decide))) (by decide) ?_
  refine hr_len (n := 5) (a0 := 0) (b := 0) (e := 0) 32 rfl (by decide +kernel) ?_
  refine hw_st (L' := (jm_st1 (jm_st1 [(0, (2, 32)), (1, (0, 0))] 2 (0, 0)) 3 (0, 5))) (b := 3) (e := 0) (by decide +kernel) rfl ?_
  exact H
theorem sf_12_32_k1_0 {sc : List Int} {d : Nat} {φ : hf_F} {x : Nat} {Q : Option jm_V → hf_F → Nat → Prop}  (hI : Inv φ)  (hQ : ∀ ψ : hf_F, Inv ψ → Fr [32] φ ψ → Q none ψ x) : hw sc d 12 0 [(0, (2, 32)), (1, (0, 0))] [] φ x Q := by
  apply sf_12_32_k1_0_v
  exact sf_12_32_k1_0_l5 ((5 - 0 : Int).toNat + 1) φ (jm_st1 (jm_st1 [(0, (2, 32)), (1, (0, 0))] 2 (0, 0)) 3 (0, 5)) 0 (get_st1 (get_st1 rfl (by decide) (fun q => absurd q.1 (by decide))) (by decide) (fun q => absurd q.1 (by decide))) (get_st1 (get_st1 rfl (by decide) (fun q => tg0 q.2)) (by decide) (fun q => absurd q.1 (by decide))) (get_st1 get_st1e (by decide) (fun q => tg0 q.2)) get_st1e hI (by omega) (by omega) (by omega) (fun χ hIχ hFχ => hQ χ hIχ (fr_tr (fr_rf) hFχ (by decide)))
theorem sf_12_41_k1_0_v5 {sc : List Int} {d : Nat} {φ : hf_F} {x : Nat} {Q : Option jm_V → hf_F → Nat → Prop} {L : jm_L} {l2 : Int} (g0 : jm_get L 0 = some (2, 41)) (g1 : jm_get L 1 = some (0, 0)) (g2 : jm_get L 2 = some (0, l2)) (g3 : jm_get L 3 = some (0, 8))
    (H : hi l2 ∧ hi 8 ∧ (8 ≤ l2 → Q none φ x) ∧ (¬ 8 ≤ l2 → 0 ≤ l2 ∧ l2 < 8 ∧ (hw sc d 12 5 (jm_st1 L 2 (0, l2 + 1)) [] (hf_up φ 41 ((l2).toNat) 0) x Q))) :
    hw sc d 12 5 L [] φ x Q := by
  refine hw_ld (b := 2) (e := 0) (by decide +kernel) g2 ?_
  refine hw_ld (b := 3) (e := 0) (by decide +kernel) g3 ?_
  obtain ⟨hz1, hy1, ht1, hf1⟩ := H
  refine hw_if2 (a0 := 0) (b := 3) (e := 20) (by decide +kernel) hz1 hy1 (fun q => ?_) (fun q => ?_)
  · have H := ht1 q
    exact hw_vret (a0 := 0) (e := 0) (by decide +kernel) H
  · have H := hf1 q
    refine hw_ald (b := 0) (e := 0) (by decide +kernel) g0 (by decide) ?_
    refine hw_ld (b := 2) (e := 0) (by decide +kernel) g2 ?_
    refine hw_ld (b := 1) (e := 0) (by decide +kernel) g1 ?_
    obtain ⟨hl3, hu3, H⟩ := H
    refine hr_as (a0 := 0) (e := 4) (n := 8) 41 rfl (by decide +kernel) hl3 hu3 ?_
    refine hw_inc (L' := (jm_st1 L 2 (0, l2 + 1))) (c := 1) (b := 2) (e := 0) (by decide +kernel) g2 rfl ?_
    refine hw_goto (a0 := 0) (b := 0) (e := 5) (by decide +kernel) ?_
    exact H
theorem sf_12_41_k1_0_l5 {sc : List Int} {d x : Nat} {Q : Option jm_V → hf_F → Nat → Prop} : ∀ (n : Nat) (φ : hf_F) (L : jm_L) (l2 : Int), jm_get L 0 = some (2, 41) → jm_get L 1 = some (0, 0) → jm_get L 2 = some (0, l2) → jm_get L 3 = some (0, 8) → Inv φ → 8 - l2 < (n : Int) → 0 ≤ l2 → l2 ≤ 8 → (∀ ψ : hf_F, Inv ψ → Fr [41] φ ψ → Q none ψ x) → hw sc d 12 5 L [] φ x Q := by
  intro n
  induction n with
  | zero =>
    intro φ L l2 g0 g1 g2 g3 hI hM b2a b2b hQ
    exfalso
    omega
  | succ n ih =>
    intro φ L l2 g0 g1 g2 g3 hI hM b2a b2b hQ
    refine sf_12_41_k1_0_v5 g0 g1 g2 g3 ?_
    refine ⟨by unfold hi; omega, by unfold hi; omega, fun q1 => ?_, fun q1 => ?_⟩
    · skip
      exact hQ φ hI (fr_rf)
    · skip
      refine ⟨by omega, by omega, ?_⟩
      have i1 : Inv (hf_up φ 41 ((l2).toNat) 0) := iv_upI (s := 0) (t := 8) (lo := (-2147483648 : Int)) (u := 2147483647) (z := l2) hI (by decide +kernel) (by omega) (by omega) (by omega) (by omega)
      have r1 : Fr [41] φ (hf_up φ 41 ((l2).toNat) 0) := fr_up (fr_rf) (by decide)
      exact ih (hf_up φ 41 ((l2).toNat) 0) (jm_st1 L 2 (0, l2 + 1)) (l2 + 1) (get_st1 g0 (by decide) (fun q => absurd q.1 (by decide))) (get_st1 g1 (by decide) (fun q => tg0 q.2)) get_st1e (get_st1 g3 (by decide) (fun q => absurd q.1 (by decide))) i1 (by omega) (by omega) (by omega) (fun χ hIχ hFχ => hQ χ hIχ (fr_tr r1 hFχ (by decide)))
theorem sf_12_41_k1_0_v {sc : List Int} {d : Nat} {φ : hf_F} {x : Nat} {Q : Option jm_V → hf_F → Nat → Prop} 
    (H : hw sc d 12 5 (jm_st1 (jm_st1 [(0, (2, 41)), (1, (0, 0))] 2 (0, 0)) 3 (0, 8)) [] φ x Q) :
    hw sc d 12 0 [(0, (2, 41)), (1, (0, 0))] [] φ x Q := by
  refine hw_k (c := 0) (b := 0) (e := 1) (by decide +kernel) ?_
  refine hw_st (L' := (jm_st1 [(0, (2, 41)), (1, (0, 0))] 2 (0, 0))) (b := 2) (e := 0) (by decide +kernel) rfl ?_
  refine hw_ald (b := 0) (e := 0) (by decide +kernel) (get_st1 rfl (by decide) (fun q => absurd q.1 (by decide))) (by decide) ?_
  refine hr_len (n := 8) (a0 := 0) (b := 0) (e := 0) 41 rfl (by decide +kernel) ?_
  refine hw_st (L' := (jm_st1 (jm_st1 [(0, (2, 41)), (1, (0, 0))] 2 (0, 0)) 3 (0, 8))) (b := 3) (e := 0) (by decide +kernel) rfl ?_
  exact H
theorem sf_12_41_k1_0 {sc : List Int} {d : Nat} {φ : hf_F} {x : Nat} {Q : Option jm_V → hf_F → Nat → Prop}  (hI : Inv φ)  (hQ : ∀ ψ : hf_F, Inv ψ → Fr [41] φ ψ → Q none ψ x) : hw sc d 12 0 [(0, (2, 41)), (1, (0, 0))] [] φ x Q := by
  apply sf_12_41_k1_0_v
  exact sf_12_41_k1_0_l5 ((8 - 0 : Int).toNat + 1) φ (jm_st1 (jm_st1 [(0, (2, 41)), (1, (0, 0))] 2 (0, 0)) 3 (0, 8)) 0 (get_st1 (get_st1 rfl (by decide) (fun q => absurd q.1 (by decide))) (by decide) (fun q => absurd q.1 (by decide))) (get_st1 (get_st1 rfl (by decide) (fun q => tg0 q.2)) (by decide) (fun q => absurd q.1 (by decide))) (get_st1 get_st1e (by decide) (fun q => tg0 q.2)) get_st1e hI (by omega) (by omega) (by omega) (fun χ hIχ hFχ => hQ χ hIχ (fr_tr (fr_rf) hFχ (by decide)))
theorem sf_12_42_k1_m1_v5 {sc : List Int} {d : Nat} {φ : hf_F} {x : Nat} {Q : Option jm_V → hf_F → Nat → Prop} {L : jm_L} {l2 : Int} (g0 : jm_get L 0 = some (2, 42)) (g1 : jm_get L 1 = some (0, (-1 : Int))) (g2 : jm_get L 2 = some (0, l2)) (g3 : jm_get L 3 = some (0, 64))
    (H : hi l2 ∧ hi 64 ∧ (64 ≤ l2 → Q none φ x) ∧ (¬ 64 ≤ l2 → 0 ≤ l2 ∧ l2 < 64 ∧ (hw sc d 12 5 (jm_st1 L 2 (0, l2 + 1)) [] (hf_up φ 42 ((l2).toNat) (-1 : Int)) x Q))) :
    hw sc d 12 5 L [] φ x Q := by
  refine hw_ld (b := 2) (e := 0) (by decide +kernel) g2 ?_
  refine hw_ld (b := 3) (e := 0) (by decide +kernel) g3 ?_
  obtain ⟨hz1, hy1, ht1, hf1⟩ := H
  refine hw_if2 (a0 := 0) (b := 3) (e := 20) (by decide +kernel) hz1 hy1 (fun q => ?_) (fun q => ?_)
  · have H := ht1 q
    exact hw_vret (a0 := 0) (e := 0) (by decide +kernel) H
  · have H := hf1 q
    refine hw_ald (b := 0) (e := 0) (by decide +kernel) g0 (by decide) ?_
    refine hw_ld (b := 2) (e := 0) (by decide +kernel) g2 ?_
    refine hw_ld (b := 1) (e := 0) (by decide +kernel) g1 ?_
    obtain ⟨hl3, hu3, H⟩ := H
    refine hr_as (a0 := 0) (e := 4) (n := 64) 42 rfl (by decide +kernel) hl3 hu3 ?_
    refine hw_inc (L' := (jm_st1 L 2 (0, l2 + 1))) (c := 1) (b := 2) (e := 0) (by decide +kernel) g2 rfl ?_
    refine hw_goto (a0 := 0) (b := 0) (e := 5) (by decide +kernel) ?_
    exact H
theorem sf_12_42_k1_m1_l5 {sc : List Int} {d x : Nat} {Q : Option jm_V → hf_F → Nat → Prop} : ∀ (n : Nat) (φ : hf_F) (L : jm_L) (l2 : Int), jm_get L 0 = some (2, 42) → jm_get L 1 = some (0, (-1 : Int)) → jm_get L 2 = some (0, l2) → jm_get L 3 = some (0, 64) → Inv φ → 64 - l2 < (n : Int) → 0 ≤ l2 → l2 ≤ 64 → (∀ ψ : hf_F, Inv ψ → Fr [42] φ ψ → Q none ψ x) → hw sc d 12 5 L [] φ x Q := by
  intro n
  induction n with
  | zero =>
    intro φ L l2 g0 g1 g2 g3 hI hM b2a b2b hQ
    exfalso
    omega
  | succ n ih =>
    intro φ L l2 g0 g1 g2 g3 hI hM b2a b2b hQ
    refine sf_12_42_k1_m1_v5 g0 g1 g2 g3 ?_
    refine ⟨by unfold hi; omega, by unfold hi; omega, fun q1 => ?_, fun q1 => ?_⟩
    · skip
      exact hQ φ hI (fr_rf)
    · skip
      refine ⟨by omega, by omega, ?_⟩
      have i1 : Inv (hf_up φ 42 ((l2).toNat) (-1 : Int)) := iv_upI (s := 0) (t := 64) (lo := (-1 : Int)) (u := 7) (z := l2) hI (by decide +kernel) (by omega) (by omega) (by omega) (by omega)
      have r1 : Fr [42] φ (hf_up φ 42 ((l2).toNat) (-1 : Int)) := fr_up (fr_rf) (by decide)
      exact ih (hf_up φ 42 ((l2).toNat) (-1 : Int)) (jm_st1 L 2 (0, l2 + 1)) (l2 + 1) (get_st1 g0 (by decide) (fun q => absurd q.1 (by decide))) (get_st1 g1 (by decide) (fun q => tg0 q.2)) get_st1e (get_st1 g3 (by decide) (fun q => absurd q.1 (by decide))) i1 (by omega) (by omega) (by omega) (fun χ hIχ hFχ => hQ χ hIχ (fr_tr r1 hFχ (by decide)))
theorem sf_12_42_k1_m1_v {sc : List Int} {d : Nat} {φ : hf_F} {x : Nat} {Q : Option jm_V → hf_F → Nat → Prop} 
    (H : hw sc d 12 5 (jm_st1 (jm_st1 [(0, (2, 42)), (1, (0, (-1 : Int)))] 2 (0, 0)) 3 (0, 64)) [] φ x Q) :
    hw sc d 12 0 [(0, (2, 42)), (1, (0, (-1 : Int)))] [] φ x Q := by
  refine hw_k (c := 0) (b := 0) (e := 1) (by decide +kernel) ?_
  refine hw_st (L' := (jm_st1 [(0, (2, 42)), (1, (0, (-1 : Int)))] 2 (0, 0))) (b := 2) (e := 0) (by decide +kernel) rfl ?_
  refine hw_ald (b := 0) (e := 0) (by decide +kernel) (get_st1 rfl (by decide) (fun q => absurd q.1 (by decide))) (by decide) ?_
  refine hr_len (n := 64) (a0 := 0) (b := 0) (e := 0) 42 rfl (by decide +kernel) ?_
  refine hw_st (L' := (jm_st1 (jm_st1 [(0, (2, 42)), (1, (0, (-1 : Int)))] 2 (0, 0)) 3 (0, 64))) (b := 3) (e := 0) (by decide +kernel) rfl ?_
  exact H
theorem sf_12_42_k1_m1 {sc : List Int} {d : Nat} {φ : hf_F} {x : Nat} {Q : Option jm_V → hf_F → Nat → Prop}  (hI : Inv φ)  (hQ : ∀ ψ : hf_F, Inv ψ → Fr [42] φ ψ → Q none ψ x) : hw sc d 12 0 [(0, (2, 42)), (1, (0, (-1 : Int)))] [] φ x Q := by
  apply sf_12_42_k1_m1_v
  exact sf_12_42_k1_m1_l5 ((64 - 0 : Int).toNat + 1) φ (jm_st1 (jm_st1 [(0, (2, 42)), (1, (0, (-1 : Int)))] 2 (0, 0)) 3 (0, 64)) 0 (get_st1 (get_st1 rfl (by decide) (fun q => absurd q.1 (by decide))) (by decide) (fun q => absurd q.1 (by decide))) (get_st1 (get_st1 rfl (by decide) (fun q => tg0 q.2)) (by decide) (fun q => absurd q.1 (by decide))) (get_st1 get_st1e (by decide) (fun q => tg0 q.2)) get_st1e hI (by omega) (by omega) (by omega) (fun χ hIχ hFχ => hQ χ hIχ (fr_tr (fr_rf) hFχ (by decide)))
theorem sf_26_31_v {sc : List Int} {d : Nat} {φ : hf_F} {x : Nat} {Q : Option jm_V → hf_F → Nat → Prop} 
    (H : hw sc d 12 0 [(0, (2, 32)), (1, (0, 0))] [] φ x (fun r ψ1 y1 => y1 = x ∧ (r = none ∧ (hw sc d 12 0 [(0, (2, 41)), (1, (0, 0))] [] ψ1 x (fun r ψ2 y2 => y2 = x ∧ (r = none ∧ (hw sc d 12 0 [(0, (2, 42)), (1, (0, (-1 : Int)))] [] ψ2 x (fun r ψ3 y3 => y3 = x ∧ (r = none ∧ (Q none ψ3 x)))))))))) :
    hw sc (d + 1) 26 0 [(0, (2, 31))] [] φ x Q := by
  refine hw_ald (b := 0) (e := 0) (by decide +kernel) rfl (by decide) ?_
  refine hr_gr (w := 32) (b := 3) (e := 0) 31 rfl (by decide +kernel) ?_
  refine hw_k (c := 0) (b := 0) (e := 1) (by decide +kernel) ?_
  refine hr_calls (b := 12) (e := 2) (nl := 4) (As := [(2, 32), (0, 0)]) (R := []) (by decide +kernel) rfl rfl (Nat.le_of_ble_eq_true rfl) (Nat.le_of_ble_eq_true rfl) ?_
  refine hw_mono H ?_
  rintro r ψ1 y1 ⟨hyx, hr, H⟩
  subst hyx
  subst hr
  refine ⟨hnen, ?_⟩
  show hw sc (d + 1) 26 8 [(0, (2, 31))] [] ψ1 y1 Q
  refine hw_ald (b := 0) (e := 0) (by decide +kernel) rfl (by decide) ?_
  refine hr_gr (w := 41) (b := 3) (e := 9) 31 rfl (by decide +kernel) ?_
  refine hw_k (c := 0) (b := 0) (e := 1) (by decide +kernel) ?_
  refine hr_calls (b := 12) (e := 2) (nl := 4) (As := [(2, 41), (0, 0)]) (R := []) (by decide +kernel) rfl rfl (Nat.le_of_ble_eq_true rfl) (Nat.le_of_ble_eq_true rfl) ?_
  refine hw_mono H ?_
  rintro r ψ2 y2 ⟨hyx, hr, H⟩
  subst hyx
  subst hr
  refine ⟨hnen, ?_⟩
  show hw sc (d + 1) 26 16 [(0, (2, 31))] [] ψ2 y2 Q
  refine hw_ald (b := 0) (e := 0) (by decide +kernel) rfl (by decide) ?_
  refine hr_gr (w := 42) (b := 3) (e := 10) 31 rfl (by decide +kernel) ?_
  refine hw_k (c := (-1 : Int)) (b := 0) (e := 1) (by decide +kernel) ?_
  refine hr_calls (b := 12) (e := 2) (nl := 4) (As := [(2, 42), (0, (-1 : Int))]) (R := []) (by decide +kernel) rfl rfl (Nat.le_of_ble_eq_true rfl) (Nat.le_of_ble_eq_true rfl) ?_
  refine hw_mono H ?_
  rintro r ψ3 y3 ⟨hyx, hr, H⟩
  subst hyx
  subst hr
  refine ⟨hnen, ?_⟩
  show hw sc (d + 1) 26 24 [(0, (2, 31))] [] ψ3 y3 Q
  exact hw_vret (a0 := 0) (e := 0) (by decide +kernel) H
theorem sf_26_31 {sc : List Int} {d : Nat} {φ : hf_F} {x : Nat} {Q : Option jm_V → hf_F → Nat → Prop}  (hI : Inv φ)  (hQ : ∀ ψ : hf_F, Inv ψ → Fr [32, 41, 42] φ ψ → Q none ψ x) : hw sc (d + 1) 26 0 [(0, (2, 31))] [] φ x Q := by
  apply sf_26_31_v
  refine sf_12_32_k1_0 (φ := φ) hI  (fun ψ1 hI1 hF1 => ⟨rfl, rfl, ?_⟩)
  have hG1 : Fr [32, 41, 42] φ ψ1 := fr_tr (fr_rf) hF1 (by decide)
  refine sf_12_41_k1_0 (φ := ψ1) hI1  (fun ψ2 hI2 hF2 => ⟨rfl, rfl, ?_⟩)
  have hG2 : Fr [32, 41, 42] φ ψ2 := fr_tr hG1 hF2 (by decide)
  refine sf_12_42_k1_m1 (φ := ψ2) hI2  (fun ψ3 hI3 hF3 => ⟨rfl, rfl, ?_⟩)
  have hG3 : Fr [32, 41, 42] φ ψ3 := fr_tr hG2 hF3 (by decide)
  exact hQ ψ3 hI3 hG3
theorem sf_124_17_v {sc : List Int} {d : Nat} {φ : hf_F} {x : Nat} {Q : Option jm_V → hf_F → Nat → Prop} {v1 : Int}
    (H : 0 ≤ v1 ∧ v1 < 6 ∧ (hi (φ 21 ((v1).toNat)) ∧ (¬ (φ 21 ((v1).toNat)) = 0 → 0 ≤ v1 ∧ v1 < 6 ∧ (hw sc d 71 0 [(0, (2, 17)), (1, (0, v1)), (2, (0, φ 23 ((v1).toNat)))] [] φ x (fun r ψ4 y4 => y4 = x ∧ (∃ z4 : Int, r = some (0, z4) ∧ (Q (some (0, z4)) ψ4 x))))) ∧ (¬ (¬ (φ 21 ((v1).toNat)) = 0) → Q (some (0, (-1 : Int))) φ x))) :
    hw sc (d + 1) 124 0 [(0, (2, 17)), (1, (0, v1))] [] φ x Q := by
  refine hw_ald (b := 0) (e := 0) (by decide +kernel) rfl (by decide) ?_
  refine hr_gr (w := 21) (b := 4) (e := 9) 17 rfl (by decide +kernel) ?_
  refine hw_ld (b := 1) (e := 0) (by decide +kernel) rfl ?_
  obtain ⟨hl1, hu1, H⟩ := H
  refine hr_al (b := 0) (a0 := 0) (e := 0) (n := 6) (w := φ 21 ((v1).toNat)) 21 rfl (by decide +kernel) (by decide) hl1 hu1 rfl ?_
  obtain ⟨hz2, ht2, hf2⟩ := H
  refine hw_if (a0 := 0) (b := 1) (e := 13) (by decide +kernel) hz2 (fun q => ?_) (fun q => ?_)
  · have H := ht2 q
    refine hw_ald (b := 0) (e := 0) (by decide +kernel) rfl (by decide) ?_
    refine hw_ld (b := 1) (e := 0) (by decide +kernel) rfl ?_
    refine hw_ald (b := 0) (e := 0) (by decide +kernel) rfl (by decide) ?_
    refine hr_gr (w := 23) (b := 4) (e := 11) 17 rfl (by decide +kernel) ?_
    refine hw_ld (b := 1) (e := 0) (by decide +kernel) rfl ?_
    obtain ⟨hl3, hu3, H⟩ := H
    refine hr_al (b := 0) (a0 := 0) (e := 0) (n := 6) (w := φ 23 ((v1).toNat)) 23 rfl (by decide +kernel) (by decide) hl3 hu3 rfl ?_
    refine hr_call (a0 := 14) (b := 71) (e := 3) (nl := 3) (As := [(0, v1), (0, φ 23 ((v1).toNat))]) (R := []) 17 rfl (by decide +kernel) rfl rfl (Nat.le_of_ble_eq_true rfl) (Nat.le_of_ble_eq_true rfl) ?_
    refine hw_mono H ?_
    rintro r ψ4 y4 ⟨hyx, z4, hr, H⟩
    subst hyx
    subst hr
    refine ⟨hne0, ?_⟩
    show hw sc (d + 1) 124 24 [(0, (2, 17)), (1, (0, v1))] [(0, z4)] ψ4 y4 Q
    exact hw_ret (a0 := 0) (e := 0) (by decide +kernel) (Or.inl rfl) H
  · have H := hf2 q
    refine hw_k (c := (-1 : Int)) (b := 0) (e := 1) (by decide +kernel) ?_
    refine hw_goto (a0 := 0) (b := 0) (e := 24) (by decide +kernel) ?_
    exact hw_ret (a0 := 0) (e := 0) (by decide +kernel) (Or.inl rfl) H
theorem sf_124_17 {sc : List Int} {d : Nat} {φ : hf_F} {x : Nat} {Q : Option jm_V → hf_F → Nat → Prop} {v1 : Int} (hI : Inv φ) (h1a : 0 ≤ v1) (h1b : v1 ≤ 5) (hQ : ∀ (r : Int) (ψ : hf_F), Inv ψ → Fr [] φ ψ → (-1 : Int) ≤ r ∧ r ≤ 7 → Q (some (0, r)) ψ x) : hw sc (d + 1) 124 0 [(0, (2, 17)), (1, (0, v1))] [] φ x Q := by
  apply sf_124_17_v
  refine ⟨by omega, by omega, ?_⟩
  have f1 := iv_ar (a := 21) (s := 0) (t := 6) (lo := 0) (u := 6) (z := v1) hI (by decide +kernel) (by omega) (by omega)
  refine ⟨by unfold hi; omega, fun q2 => ?_, fun q2 => ?_⟩
  · skip
    refine ⟨by omega, by omega, ?_⟩
    have f2 := iv_ar (a := 23) (s := 0) (t := 6) (lo := 0) (u := 5) (z := v1) hI (by decide +kernel) (by omega) (by omega)
    refine sf_71_17 (φ := φ) hI (by omega) (by omega) (by omega) (by omega) (fun z4 ψ4 hI4 hF4 hp4 => ⟨rfl, z4, rfl, ?_⟩)
    have hG4 : Fr [] φ ψ4 := fr_tr (fr_rf) hF4 (by decide)
    exact hQ z4 ψ4 hI4 hG4 ⟨by omega, by omega⟩
  · skip
    exact hQ (-1 : Int) φ hI (fr_rf) ⟨by omega, by omega⟩
theorem sf_160_0_v {sc : List Int} {d : Nat} {φ : hf_F} {x : Nat} {Q : Option jm_V → hf_F → Nat → Prop} {v1 v2 : Int}
    (H : hw sc (d + 1) 70 0 [(0, (2, 0)), (1, (0, 3)), (2, (0, v1))] [] φ x (fun r ψ1 y1 => y1 = x ∧ (∃ z1 : Int, r = some (0, z1) ∧ (hi z1 ∧ (z1 = 0 → 10 ≤ (d + 2) ∧ Q (some (9, 0)) ψ1 (x + 1)) ∧ (¬ z1 = 0 → hi v2 ∧ (v2 < 0 → 10 ≤ (d + 2) ∧ Q (some (9, 0)) ψ1 (x + 1)) ∧ (¬ v2 < 0 → hi v2 ∧ hi 4 ∧ (v2 ≤ 4 → hi v2 ∧ (v2 = 0 → 0 ≤ v1 ∧ v1 < 6 ∧ (Q (some (0, ψ1 20 ((v1).toNat))) ψ1 x)) ∧ (v2 = 1 → 0 ≤ v1 ∧ v1 < 6 ∧ (Q (some (0, ψ1 21 ((v1).toNat))) ψ1 x)) ∧ (v2 = 2 → hw sc (d + 1) 124 0 [(0, (2, 17)), (1, (0, v1))] [] ψ1 x (fun r ψ12 y12 => y12 = x ∧ (∃ z12 : Int, r = some (0, z12) ∧ (Q (some (0, z12)) ψ12 x)))) ∧ (v2 = 3 → 0 ≤ v1 ∧ v1 < 6 ∧ (Q (some (0, ψ1 24 ((v1).toNat))) ψ1 x)) ∧ ((v2 < 0 ∨ 4 ≤ v2) → hw sc (d + 1) 108 0 [(0, (2, 17)), (1, (0, v1))] [] ψ1 x (fun r ψ16 y16 => y16 = x ∧ (∃ z16 : Int, r = some (0, z16) ∧ (Q (some (0, z16)) ψ16 x))))) ∧ (¬ v2 ≤ 4 → 10 ≤ (d + 2) ∧ Q (some (9, 0)) ψ1 (x + 1)))))))) :
    hw sc (d + 2) 160 0 [(0, (2, 0)), (1, (0, v1)), (2, (0, v2))] [] φ x Q := by
  refine hw_ald (b := 0) (e := 0) (by decide +kernel) rfl (by decide) ?_
  refine hw_k (c := 3) (b := 0) (e := 1) (by decide +kernel) ?_
  refine hw_ld (b := 1) (e := 0) (by decide +kernel) rfl ?_
  refine hr_call (a0 := 10) (b := 70) (e := 3) (nl := 3) (As := [(0, 3), (0, v1)]) (R := []) 0 rfl (by decide +kernel) rfl rfl (Nat.le_of_ble_eq_true rfl) (Nat.le_of_ble_eq_true rfl) ?_
  refine hw_mono H ?_
  rintro r ψ1 y1 ⟨hyx, z1, hr, H⟩
  subst hyx
  subst hr
  refine ⟨hne0, ?_⟩
  show hw sc (d + 2) 160 6 [(0, (2, 0)), (1, (0, v1)), (2, (0, v2))] [(0, z1)] ψ1 y1 Q
  obtain ⟨hz2, ht2, hf2⟩ := H
  refine hw_if (a0 := 0) (b := 0) (e := 18) (by decide +kernel) hz2 (fun q => ?_) (fun q => ?_)
  · have H := ht2 q
    exact hw_thr (a0 := 0) (b := 5) (e := 0) (by decide +kernel) H.1 (Nat.le_of_ble_eq_true rfl) H.2
  · have H := hf2 q
    refine hw_ld (b := 2) (e := 0) (by decide +kernel) rfl ?_
    obtain ⟨hz4, ht4, hf4⟩ := H
    refine hw_if (a0 := 0) (b := 2) (e := 18) (by decide +kernel) hz4 (fun q => ?_) (fun q => ?_)
    · have H := ht4 q
      exact hw_thr (a0 := 0) (b := 5) (e := 0) (by decide +kernel) H.1 (Nat.le_of_ble_eq_true rfl) H.2
    · have H := hf4 q
      refine hw_ld (b := 2) (e := 0) (by decide +kernel) rfl ?_
      refine hw_k (c := 4) (b := 0) (e := 1) (by decide +kernel) ?_
      obtain ⟨hz6, hy6, ht6, hf6⟩ := H
      refine hw_if2 (a0 := 0) (b := 5) (e := 28) (by decide +kernel) hz6 hy6 (fun q => ?_) (fun q => ?_)
      · have H := ht6 q
        refine hw_ld (b := 2) (e := 0) (by decide +kernel) rfl ?_
        obtain ⟨hz7, H⟩ := H
        refine hr_tsw (T := [60, 73, 86, 98]) (lo := 0) (nn := 4) (b := 111) (e := 8) (by decide +kernel) rfl hz7 ?_ ?_
        · intro q
          have H := H.2.2.2.2 q
          refine hw_ald (b := 0) (e := 0) (by decide +kernel) rfl (by decide) ?_
          refine hr_gr (w := 4) (b := 0) (e := 1) 0 rfl (by decide +kernel) ?_
          refine hr_gr (w := 17) (b := 2) (e := 1) 4 rfl (by decide +kernel) ?_
          refine hw_ld (b := 1) (e := 0) (by decide +kernel) rfl ?_
          refine hr_call (a0 := 14) (b := 108) (e := 2) (nl := 4) (As := [(0, v1)]) (R := []) 17 rfl (by decide +kernel) rfl rfl (Nat.le_of_ble_eq_true rfl) (Nat.le_of_ble_eq_true rfl) ?_
          refine hw_mono H ?_
          rintro r ψ16 y16 ⟨hyx, z16, hr, H⟩
          subst hyx
          subst hr
          refine ⟨hne0, ?_⟩
          show hw sc (d + 2) 160 122 [(0, (2, 0)), (1, (0, v1)), (2, (0, v2))] [(0, z16)] ψ16 y16 Q
          exact hw_ret (a0 := 0) (e := 0) (by decide +kernel) (Or.inl rfl) H
        · intro kq tq htq hzq
          match kq, htq, hzq with
          | 0, htq, hzq =>
            cases htq
            have H := H.1 (by omega)
            refine hw_ald (b := 0) (e := 0) (by decide +kernel) rfl (by decide) ?_
            refine hr_gr (w := 4) (b := 0) (e := 1) 0 rfl (by decide +kernel) ?_
            refine hr_gr (w := 17) (b := 2) (e := 1) 4 rfl (by decide +kernel) ?_
            refine hr_gr (w := 20) (b := 4) (e := 8) 17 rfl (by decide +kernel) ?_
            refine hw_ld (b := 1) (e := 0) (by decide +kernel) rfl ?_
            obtain ⟨hl8, hu8, H⟩ := H
            refine hr_al (b := 0) (a0 := 0) (e := 0) (n := 6) (w := ψ1 20 ((v1).toNat)) 20 rfl (by decide +kernel) (by decide) hl8 hu8 rfl ?_
            exact hw_ret (a0 := 0) (e := 0) (by decide +kernel) (Or.inl rfl) H
          | 1, htq, hzq =>
            cases htq
            have H := H.2.1 (by omega)
            refine hw_ald (b := 0) (e := 0) (by decide +kernel) rfl (by decide) ?_
            refine hr_gr (w := 4) (b := 0) (e := 1) 0 rfl (by decide +kernel) ?_
            refine hr_gr (w := 17) (b := 2) (e := 1) 4 rfl (by decide +kernel) ?_
            refine hr_gr (w := 21) (b := 4) (e := 9) 17 rfl (by decide +kernel) ?_
            refine hw_ld (b := 1) (e := 0) (by decide +kernel) rfl ?_
            obtain ⟨hl10, hu10, H⟩ := H
            refine hr_al (b := 0) (a0 := 0) (e := 0) (n := 6) (w := ψ1 21 ((v1).toNat)) 21 rfl (by decide +kernel) (by decide) hl10 hu10 rfl ?_
            exact hw_ret (a0 := 0) (e := 0) (by decide +kernel) (Or.inl rfl) H
          | 2, htq, hzq =>
            cases htq
            have H := H.2.2.1 (by omega)
            refine hw_ald (b := 0) (e := 0) (by decide +kernel) rfl (by decide) ?_
            refine hr_gr (w := 4) (b := 0) (e := 1) 0 rfl (by decide +kernel) ?_
            refine hr_gr (w := 17) (b := 2) (e := 1) 4 rfl (by decide +kernel) ?_
            refine hw_ld (b := 1) (e := 0) (by decide +kernel) rfl ?_
            refine hr_call (a0 := 14) (b := 124) (e := 2) (nl := 2) (As := [(0, v1)]) (R := []) 17 rfl (by decide +kernel) rfl rfl (Nat.le_of_ble_eq_true rfl) (Nat.le_of_ble_eq_true rfl) ?_
            refine hw_mono H ?_
            rintro r ψ12 y12 ⟨hyx, z12, hr, H⟩
            subst hyx
            subst hr
            refine ⟨hne0, ?_⟩
            show hw sc (d + 2) 160 97 [(0, (2, 0)), (1, (0, v1)), (2, (0, v2))] [(0, z12)] ψ12 y12 Q
            exact hw_ret (a0 := 0) (e := 0) (by decide +kernel) (Or.inl rfl) H
          | 3, htq, hzq =>
            cases htq
            have H := H.2.2.2.1 (by omega)
            refine hw_ald (b := 0) (e := 0) (by decide +kernel) rfl (by decide) ?_
            refine hr_gr (w := 4) (b := 0) (e := 1) 0 rfl (by decide +kernel) ?_
            refine hr_gr (w := 17) (b := 2) (e := 1) 4 rfl (by decide +kernel) ?_
            refine hr_gr (w := 24) (b := 4) (e := 12) 17 rfl (by decide +kernel) ?_
            refine hw_ld (b := 1) (e := 0) (by decide +kernel) rfl ?_
            obtain ⟨hl14, hu14, H⟩ := H
            refine hr_al (b := 0) (a0 := 0) (e := 0) (n := 6) (w := ψ1 24 ((v1).toNat)) 24 rfl (by decide +kernel) (by decide) hl14 hu14 rfl ?_
            exact hw_ret (a0 := 0) (e := 0) (by decide +kernel) (Or.inl rfl) H
          | kq + 4, htq, _ => cases htq
      · have H := hf6 q
        exact hw_thr (a0 := 0) (b := 5) (e := 0) (by decide +kernel) H.1 (Nat.le_of_ble_eq_true rfl) H.2
theorem sf_160_0 {sc : List Int} {d : Nat} {φ : hf_F} {x : Nat} {Q : Option jm_V → hf_F → Nat → Prop} {v1 v2 : Int} (hI : Inv φ) (h1a : (-2147483648 : Int) ≤ v1) (h1b : v1 ≤ 2147483647) (h2a : (-2147483648 : Int) ≤ v2) (h2b : v2 ≤ 2147483647) (hd : 10 ≤ (d + 2)) (hT : ∀ ψ : hf_F, Inv ψ → Fr [] φ ψ → Q (some (9, 0)) ψ (x + 1)) (hQ : ∀ (r : Int) (ψ : hf_F), Inv ψ → Fr [] φ ψ → True → Q (some (0, r)) ψ x) : hw sc (d + 2) 160 0 [(0, (2, 0)), (1, (0, v1)), (2, (0, v2))] [] φ x Q := by
  apply sf_160_0_v
  refine sf_70_0_k1_3 (φ := φ) hI (by omega) (by omega) (fun z1 ψ1 hI1 hF1 hp1 => ⟨rfl, z1, rfl, ?_⟩)
  have hG1 : Fr [] φ ψ1 := fr_tr (fr_rf) hF1 (by decide)
  refine ⟨by unfold hi; omega, fun q2 => ?_, fun q2 => ?_⟩
  · skip
    exact ⟨hd, hT ψ1 hI1 hG1⟩
  · skip
    refine ⟨by unfold hi; omega, fun q4 => ?_, fun q4 => ?_⟩
    · skip
      exact ⟨hd, hT ψ1 hI1 hG1⟩
    · skip
      refine ⟨by unfold hi; omega, by unfold hi; omega, fun q6 => ?_, fun q6 => ?_⟩
      · skip
        refine ⟨by unfold hi; omega, fun q7 => ?_, fun q7 => ?_, fun q7 => ?_, fun q7 => ?_, fun q7 => ?_⟩
        · skip
          refine ⟨by omega, by omega, ?_⟩
          have f1 := iv_ar (a := 20) (s := 0) (t := 6) (lo := (-1 : Int)) (u := 7) (z := v1) hI1 (by decide +kernel) (by omega) (by omega)
          have f2 : ψ1 20 ((v1).toNat) = φ 20 ((v1).toNat) := (hF1 20 (by decide) ((v1).toNat))
          have f3 := iv_ar (a := 20) (s := 0) (t := 6) (lo := (-1 : Int)) (u := 7) (z := v1) hI (by decide +kernel) (by omega) (by omega)
          exact hQ (ψ1 20 ((v1).toNat)) ψ1 hI1 hG1 trivial
        · skip
          refine ⟨by omega, by omega, ?_⟩
          have f4 := iv_ar (a := 21) (s := 0) (t := 6) (lo := 0) (u := 6) (z := v1) hI1 (by decide +kernel) (by omega) (by omega)
          have f5 : ψ1 21 ((v1).toNat) = φ 21 ((v1).toNat) := (hF1 21 (by decide) ((v1).toNat))
          have f6 := iv_ar (a := 21) (s := 0) (t := 6) (lo := 0) (u := 6) (z := v1) hI (by decide +kernel) (by omega) (by omega)
          exact hQ (ψ1 21 ((v1).toNat)) ψ1 hI1 hG1 trivial
        · skip
          refine sf_124_17 (φ := ψ1) hI1 (by omega) (by omega) (fun z12 ψ12 hI12 hF12 hp12 => ⟨rfl, z12, rfl, ?_⟩)
          have hG12 : Fr [] φ ψ12 := fr_tr hG1 hF12 (by decide)
          exact hQ z12 ψ12 hI12 hG12 trivial
        · skip
          refine ⟨by omega, by omega, ?_⟩
          have f7 : ψ1 24 ((v1).toNat) = φ 24 ((v1).toNat) := (hF1 24 (by decide) ((v1).toNat))
          exact hQ (ψ1 24 ((v1).toNat)) ψ1 hI1 hG1 trivial
        · skip
          refine sf_108_17 (φ := ψ1) hI1 (by omega) (by omega) (fun z16 ψ16 hI16 hF16 hp16 => ⟨rfl, z16, rfl, ?_⟩)
          have hG16 : Fr [] φ ψ16 := fr_tr hG1 hF16 (by decide)
          exact hQ z16 ψ16 hI16 hG16 trivial
      · skip
        exact ⟨hd, hT ψ1 hI1 hG1⟩
theorem sf_200_192_v {sc : List Int} {d : Nat} {φ : hf_F} {x : Nat} {Q : Option jm_V → hf_F → Nat → Prop} 
    (H : Q (some (0, φ 192 15)) (hf_up φ 192 0 0) x) :
    hw sc d 200 0 [(0, (2, 192))] [] φ x Q := by
  refine hw_ald (b := 0) (e := 0) (by decide +kernel) rfl (by decide) ?_
  refine hw_k (c := 0) (b := 0) (e := 1) (by decide +kernel) ?_
  refine hr_pi (b := 12) (e := 0) 192 rfl (by decide +kernel) ?_
  refine hw_ald (b := 0) (e := 0) (by decide +kernel) rfl (by decide) ?_
  refine hr_gi (w := φ 192 15) (b := 12) (e := 15) 192 rfl (by decide +kernel) (hf_up_ne (fun q => absurd q.2 (by decide))) ?_
  exact hw_ret (a0 := 0) (e := 0) (by decide +kernel) (Or.inl rfl) H
theorem sf_200_192 {sc : List Int} {d : Nat} {φ : hf_F} {x : Nat} {Q : Option jm_V → hf_F → Nat → Prop}  (hI : Inv φ)  (hQ : ∀ (r : Int) (ψ : hf_F), Inv ψ → Fr [192] φ ψ → True → Q (some (0, r)) ψ x) : hw sc d 200 0 [(0, (2, 192))] [] φ x Q := by
  apply sf_200_192_v
  have i1 : Inv (hf_up φ 192 0 0) := iv_up (lo := 0) (u := 1) hI (by decide +kernel) (by omega) (by omega)
  have r1 : Fr [192] φ (hf_up φ 192 0 0) := fr_up (fr_rf) (by decide)
  have f2 := iv_at (a := 192) (k := 15) (lo := 0) (u := 4) hI (by decide +kernel)
  exact hQ (φ 192 15) (hf_up φ 192 0 0) i1 r1 trivial
theorem sf_170_192_v {sc : List Int} {d : Nat} {φ : hf_F} {x : Nat} {Q : Option jm_V → hf_F → Nat → Prop} {v1 : Int}
    (H : hi v1 ∧ (v1 < 0 → Q (some (0, 0)) (hf_up φ 192 0 0) x) ∧ (¬ v1 < 0 → hi v1 ∧ hi (φ 192 2) ∧ (v1 ≤ (φ 192 2) → Q (some (0, 1)) (hf_up (hf_up φ 192 0 0) 192 2 v1) x) ∧ (¬ v1 ≤ (φ 192 2) → Q (some (0, 0)) (hf_up φ 192 0 0) x))) :
    hw sc d 170 0 [(0, (2, 192)), (1, (0, v1))] [] φ x Q := by
  refine hw_ald (b := 0) (e := 0) (by decide +kernel) rfl (by decide) ?_
  refine hw_k (c := 0) (b := 0) (e := 1) (by decide +kernel) ?_
  refine hr_pi (b := 12) (e := 0) 192 rfl (by decide +kernel) ?_
  refine hw_ld (b := 1) (e := 0) (by decide +kernel) rfl ?_
  obtain ⟨hz1, ht1, hf1⟩ := H
  refine hw_if (a0 := 0) (b := 2) (e := 17) (by decide +kernel) hz1 (fun q => ?_) (fun q => ?_)
  · have H := ht1 q
    refine hw_k (c := 0) (b := 0) (e := 1) (by decide +kernel) ?_
    exact hw_ret (a0 := 0) (e := 1) (by decide +kernel) (Or.inr ⟨rfl, by decide⟩) H
  · have H := hf1 q
    refine hw_ld (b := 1) (e := 0) (by decide +kernel) rfl ?_
    refine hw_ald (b := 0) (e := 0) (by decide +kernel) rfl (by decide) ?_
    refine hr_gi (w := φ 192 2) (b := 12) (e := 2) 192 rfl (by decide +kernel) (hf_up_ne (fun q => absurd q.2 (by decide))) ?_
    obtain ⟨hz3, hy3, ht3, hf3⟩ := H
    refine hw_if2 (a0 := 0) (b := 5) (e := 19) (by decide +kernel) hz3 hy3 (fun q => ?_) (fun q => ?_)
    · have H := ht3 q
      refine hw_ald (b := 0) (e := 0) (by decide +kernel) rfl (by decide) ?_
      refine hw_ld (b := 1) (e := 0) (by decide +kernel) rfl ?_
      refine hr_pi (b := 12) (e := 2) 192 rfl (by decide +kernel) ?_
      refine hw_k (c := 1) (b := 0) (e := 1) (by decide +kernel) ?_
      exact hw_ret (a0 := 0) (e := 1) (by decide +kernel) (Or.inr ⟨rfl, by decide⟩) H
    · have H := hf3 q
      refine hw_k (c := 0) (b := 0) (e := 1) (by decide +kernel) ?_
      exact hw_ret (a0 := 0) (e := 1) (by decide +kernel) (Or.inr ⟨rfl, by decide⟩) H
theorem sf_170_192 {sc : List Int} {d : Nat} {φ : hf_F} {x : Nat} {Q : Option jm_V → hf_F → Nat → Prop} {v1 : Int} (hI : Inv φ) (h1a : (-2147483648 : Int) ≤ v1) (h1b : v1 ≤ 2147483647) (hQ : ∀ (r : Int) (ψ : hf_F), Inv ψ → Fr [192] φ ψ → 0 ≤ r ∧ r ≤ 1 → Q (some (0, r)) ψ x) : hw sc d 170 0 [(0, (2, 192)), (1, (0, v1))] [] φ x Q := by
  apply sf_170_192_v
  have i1 : Inv (hf_up φ 192 0 0) := iv_up (lo := 0) (u := 1) hI (by decide +kernel) (by omega) (by omega)
  have r1 : Fr [192] φ (hf_up φ 192 0 0) := fr_up (fr_rf) (by decide)
  refine ⟨by unfold hi; omega, fun q1 => ?_, fun q1 => ?_⟩
  · skip
    exact hQ 0 (hf_up φ 192 0 0) i1 r1 ⟨by omega, by omega⟩
  · skip
    have f2 := iv_at (a := 192) (k := 2) (lo := 0) (u := 940) hI (by decide +kernel)
    refine ⟨by unfold hi; omega, by unfold hi; omega, fun q3 => ?_, fun q3 => ?_⟩
    · skip
      have i3 : Inv (hf_up (hf_up φ 192 0 0) 192 2 v1) := iv_up (lo := 0) (u := 940) i1 (by decide +kernel) (by omega) (by omega)
      have r3 : Fr [192] φ (hf_up (hf_up φ 192 0 0) 192 2 v1) := fr_up r1 (by decide)
      exact hQ 1 (hf_up (hf_up φ 192 0 0) 192 2 v1) i3 r3 ⟨by omega, by omega⟩
    · skip
      exact hQ 0 (hf_up φ 192 0 0) i1 r1 ⟨by omega, by omega⟩
theorem sf_188_v {sc : List Int} {d : Nat} {φ : hf_F} {x : Nat} {Q : Option jm_V → hf_F → Nat → Prop} {v0 v1 v2 : Int}
    (H : hi v0 ∧ hi v1 ∧ (v0 < v1 → Q (some (0, 0)) φ x) ∧ (¬ v0 < v1 → hi v0 ∧ hi v2 ∧ (v2 < v0 → Q (some (0, 0)) φ x) ∧ (¬ v2 < v0 → Q (some (0, 1)) φ x))) :
    hw sc d 188 0 [(0, (0, v0)), (1, (0, v1)), (2, (0, v2))] [] φ x Q := by
  refine hw_ld (b := 0) (e := 0) (by decide +kernel) rfl ?_
  refine hw_ld (b := 1) (e := 0) (by decide +kernel) rfl ?_
  obtain ⟨hz1, hy1, ht1, hf1⟩ := H
  refine hw_if2 (a0 := 0) (b := 2) (e := 14) (by decide +kernel) hz1 hy1 (fun q => ?_) (fun q => ?_)
  · have H := ht1 q
    refine hw_k (c := 0) (b := 0) (e := 1) (by decide +kernel) ?_
    exact hw_ret (a0 := 0) (e := 1) (by decide +kernel) (Or.inr ⟨rfl, by decide⟩) H
  · have H := hf1 q
    refine hw_ld (b := 0) (e := 0) (by decide +kernel) rfl ?_
    refine hw_ld (b := 2) (e := 0) (by decide +kernel) rfl ?_
    obtain ⟨hz3, hy3, ht3, hf3⟩ := H
    refine hw_if2 (a0 := 0) (b := 4) (e := 14) (by decide +kernel) hz3 hy3 (fun q => ?_) (fun q => ?_)
    · have H := ht3 q
      refine hw_k (c := 0) (b := 0) (e := 1) (by decide +kernel) ?_
      exact hw_ret (a0 := 0) (e := 1) (by decide +kernel) (Or.inr ⟨rfl, by decide⟩) H
    · have H := hf3 q
      refine hw_k (c := 1) (b := 0) (e := 1) (by decide +kernel) ?_
      refine hw_goto (a0 := 0) (b := 0) (e := 15) (by decide +kernel) ?_
      exact hw_ret (a0 := 0) (e := 1) (by decide +kernel) (Or.inr ⟨rfl, by decide⟩) H
theorem sf_188 {sc : List Int} {d : Nat} {φ : hf_F} {x : Nat} {Q : Option jm_V → hf_F → Nat → Prop} {v0 v1 v2 : Int} (hI : Inv φ) (h0a : (-2147483648 : Int) ≤ v0) (h0b : v0 ≤ 2147483647) (h1a : (-2147483648 : Int) ≤ v1) (h1b : v1 ≤ 2147483647) (h2a : (-2147483648 : Int) ≤ v2) (h2b : v2 ≤ 2147483647) (hQ : ∀ (r : Int) (ψ : hf_F), Inv ψ → Fr [] φ ψ → 0 ≤ r ∧ r ≤ 1 ∧ (r = 1 → v1 ≤ v0 ∧ v0 ≤ v2) → Q (some (0, r)) ψ x) : hw sc d 188 0 [(0, (0, v0)), (1, (0, v1)), (2, (0, v2))] [] φ x Q := by
  apply sf_188_v
  refine ⟨by unfold hi; omega, by unfold hi; omega, fun q1 => ?_, fun q1 => ?_⟩
  · skip
    exact hQ 0 φ hI (fr_rf) ⟨by omega, by omega, by intros; omega⟩
  · skip
    refine ⟨by unfold hi; omega, by unfold hi; omega, fun q3 => ?_, fun q3 => ?_⟩
    · skip
      exact hQ 0 φ hI (fr_rf) ⟨by omega, by omega, by intros; omega⟩
    · skip
      exact hQ 1 φ hI (fr_rf) ⟨by omega, by omega, by intros; omega⟩
theorem sf_262_192_v {sc : List Int} {d : Nat} {φ : hf_F} {x : Nat} {Q : Option jm_V → hf_F → Nat → Prop} {v1 : Int}
    (H : hi (φ 192 32) ∧ ((φ 192 32) = 0 → Q (some (0, (-1 : Int))) (hf_up φ 192 0 0) x) ∧ (¬ (φ 192 32) = 0 → hw sc d 188 0 [(0, (0, v1)), (1, (0, 0)), (2, (0, 3))] [] (hf_up φ 192 0 0) x (fun r ψ3 y3 => y3 = x ∧ (∃ z3 : Int, r = some (0, z3) ∧ (hi z3 ∧ (z3 = 0 → Q (some (0, (-1 : Int))) ψ3 x) ∧ (¬ z3 = 0 → 0 ≤ v1 ∧ v1 < 4 ∧ (Q (some (0, ψ3 202 ((v1).toNat))) ψ3 x))))))) :
    hw sc (d + 1) 262 0 [(0, (2, 192)), (1, (0, v1))] [] φ x Q := by
  refine hw_ald (b := 0) (e := 0) (by decide +kernel) rfl (by decide) ?_
  refine hw_k (c := 0) (b := 0) (e := 1) (by decide +kernel) ?_
  refine hr_pi (b := 12) (e := 0) 192 rfl (by decide +kernel) ?_
  refine hw_ald (b := 0) (e := 0) (by decide +kernel) rfl (by decide) ?_
  refine hr_gz (w := φ 192 32) (b := 12) (e := 32) 192 rfl (by decide +kernel) (hf_up_ne (fun q => absurd q.2 (by decide))) ?_
  obtain ⟨hz1, ht1, hf1⟩ := H
  refine hw_if (a0 := 0) (b := 0) (e := 30) (by decide +kernel) hz1 (fun q => ?_) (fun q => ?_)
  · have H := ht1 q
    refine hw_k (c := (-1 : Int)) (b := 0) (e := 1) (by decide +kernel) ?_
    exact hw_ret (a0 := 0) (e := 0) (by decide +kernel) (Or.inl rfl) H
  · have H := hf1 q
    refine hw_ld (b := 1) (e := 0) (by decide +kernel) rfl ?_
    refine hw_k (c := 0) (b := 0) (e := 1) (by decide +kernel) ?_
    refine hw_k (c := 3) (b := 0) (e := 1) (by decide +kernel) ?_
    refine hr_calls (b := 188) (e := 3) (nl := 3) (As := [(0, v1), (0, 0), (0, 3)]) (R := []) (by decide +kernel) rfl rfl (Nat.le_of_ble_eq_true rfl) (Nat.le_of_ble_eq_true rfl) ?_
    refine hw_mono H ?_
    rintro r ψ3 y3 ⟨hyx, z3, hr, H⟩
    subst hyx
    subst hr
    refine ⟨hne0, ?_⟩
    show hw sc (d + 1) 262 18 [(0, (2, 192)), (1, (0, v1))] [(0, z3)] ψ3 y3 Q
    obtain ⟨hz4, ht4, hf4⟩ := H
    refine hw_if (a0 := 0) (b := 0) (e := 30) (by decide +kernel) hz4 (fun q => ?_) (fun q => ?_)
    · have H := ht4 q
      refine hw_k (c := (-1 : Int)) (b := 0) (e := 1) (by decide +kernel) ?_
      exact hw_ret (a0 := 0) (e := 0) (by decide +kernel) (Or.inl rfl) H
    · have H := hf4 q
      refine hw_ald (b := 0) (e := 0) (by decide +kernel) rfl (by decide) ?_
      refine hr_gr (w := 202) (b := 12) (e := 31) 192 rfl (by decide +kernel) ?_
      refine hw_ld (b := 1) (e := 0) (by decide +kernel) rfl ?_
      obtain ⟨hl6, hu6, H⟩ := H
      refine hr_al (b := 0) (a0 := 0) (e := 0) (n := 4) (w := ψ3 202 ((v1).toNat)) 202 rfl (by decide +kernel) (by decide) hl6 hu6 rfl ?_
      refine hw_goto (a0 := 0) (b := 0) (e := 31) (by decide +kernel) ?_
      exact hw_ret (a0 := 0) (e := 0) (by decide +kernel) (Or.inl rfl) H
theorem sf_262_192 {sc : List Int} {d : Nat} {φ : hf_F} {x : Nat} {Q : Option jm_V → hf_F → Nat → Prop} {v1 : Int} (hI : Inv φ) (h1a : (-2147483648 : Int) ≤ v1) (h1b : v1 ≤ 2147483647) (hQ : ∀ (r : Int) (ψ : hf_F), Inv ψ → Fr [192] φ ψ → True → Q (some (0, r)) ψ x) : hw sc (d + 1) 262 0 [(0, (2, 192)), (1, (0, v1))] [] φ x Q := by
  apply sf_262_192_v
  have i1 : Inv (hf_up φ 192 0 0) := iv_up (lo := 0) (u := 1) hI (by decide +kernel) (by omega) (by omega)
  have r1 : Fr [192] φ (hf_up φ 192 0 0) := fr_up (fr_rf) (by decide)
  have f2 := iv_at (a := 192) (k := 32) (lo := 0) (u := 1) hI (by decide +kernel)
  refine ⟨by unfold hi; omega, fun q1 => ?_, fun q1 => ?_⟩
  · skip
    exact hQ (-1 : Int) (hf_up φ 192 0 0) i1 r1 trivial
  · skip
    refine sf_188 (φ := (hf_up φ 192 0 0)) i1 (by omega) (by omega) (by omega) (by omega) (by omega) (by omega) (fun z3 ψ3 hI3 hF3 hp3 => ⟨rfl, z3, rfl, ?_⟩)
    have hG3 : Fr [192] φ ψ3 := fr_tr r1 hF3 (by decide)
    refine ⟨by unfold hi; omega, fun q4 => ?_, fun q4 => ?_⟩
    · skip
      exact hQ (-1 : Int) ψ3 hI3 hG3 trivial
    · skip
      refine ⟨by omega, by omega, ?_⟩
      have f3 := iv_ar (a := 202) (s := 0) (t := 4) (lo := (-2147483648 : Int)) (u := 2147483647) (z := v1) hI3 (by decide +kernel) (by omega) (by omega)
      have f4 : ψ3 202 ((v1).toNat) = φ 202 ((v1).toNat) := (hF3 202 (by decide) ((v1).toNat)).trans (hf_up_ne (fun q => absurd q.1 (by decide)))
      have f5 := iv_ar (a := 202) (s := 0) (t := 4) (lo := (-2147483648 : Int)) (u := 2147483647) (z := v1) hI (by decide +kernel) (by omega) (by omega)
      exact hQ (ψ3 202 ((v1).toNat)) ψ3 hI3 hG3 trivial
theorem sf_246_192_v {sc : List Int} {d : Nat} {φ : hf_F} {x : Nat} {Q : Option jm_V → hf_F → Nat → Prop} 
    (H : hi (φ 192 26) ∧ ((φ 192 26) = 0 → Q (some (0, (-1 : Int))) (hf_up φ 192 0 0) x) ∧ (¬ (φ 192 26) = 0 → Q (some (0, φ 192 25)) (hf_up φ 192 0 0) x)) :
    hw sc d 246 0 [(0, (2, 192))] [] φ x Q := by
  refine hw_ald (b := 0) (e := 0) (by decide +kernel) rfl (by decide) ?_
  refine hw_k (c := 0) (b := 0) (e := 1) (by decide +kernel) ?_
  refine hr_pi (b := 12) (e := 0) 192 rfl (by decide +kernel) ?_
  refine hw_ald (b := 0) (e := 0) (by decide +kernel) rfl (by decide) ?_
  refine hr_gz (w := φ 192 26) (b := 12) (e := 26) 192 rfl (by decide +kernel) (hf_up_ne (fun q => absurd q.2 (by decide))) ?_
  obtain ⟨hz1, ht1, hf1⟩ := H
  refine hw_if (a0 := 0) (b := 0) (e := 19) (by decide +kernel) hz1 (fun q => ?_) (fun q => ?_)
  · have H := ht1 q
    refine hw_k (c := (-1 : Int)) (b := 0) (e := 1) (by decide +kernel) ?_
    exact hw_ret (a0 := 0) (e := 0) (by decide +kernel) (Or.inl rfl) H
  · have H := hf1 q
    refine hw_ald (b := 0) (e := 0) (by decide +kernel) rfl (by decide) ?_
    refine hr_gi (w := φ 192 25) (b := 12) (e := 25) 192 rfl (by decide +kernel) (hf_up_ne (fun q => absurd q.2 (by decide))) ?_
    refine hw_goto (a0 := 0) (b := 0) (e := 20) (by decide +kernel) ?_
    exact hw_ret (a0 := 0) (e := 0) (by decide +kernel) (Or.inl rfl) H
theorem sf_246_192 {sc : List Int} {d : Nat} {φ : hf_F} {x : Nat} {Q : Option jm_V → hf_F → Nat → Prop}  (hI : Inv φ)  (hQ : ∀ (r : Int) (ψ : hf_F), Inv ψ → Fr [192] φ ψ → True → Q (some (0, r)) ψ x) : hw sc d 246 0 [(0, (2, 192))] [] φ x Q := by
  apply sf_246_192_v
  have i1 : Inv (hf_up φ 192 0 0) := iv_up (lo := 0) (u := 1) hI (by decide +kernel) (by omega) (by omega)
  have r1 : Fr [192] φ (hf_up φ 192 0 0) := fr_up (fr_rf) (by decide)
  have f2 := iv_at (a := 192) (k := 26) (lo := 0) (u := 1) hI (by decide +kernel)
  refine ⟨by unfold hi; omega, fun q1 => ?_, fun q1 => ?_⟩
  · skip
    exact hQ (-1 : Int) (hf_up φ 192 0 0) i1 r1 trivial
  · skip
    have f3 := iv_at (a := 192) (k := 25) (lo := (-2147483648 : Int)) (u := 2147483647) hI (by decide +kernel)
    exact hQ (φ 192 25) (hf_up φ 192 0 0) i1 r1 trivial
theorem sf_253_192_v {sc : List Int} {d : Nat} {φ : hf_F} {x : Nat} {Q : Option jm_V → hf_F → Nat → Prop} {v1 : Int}
    (H : hw sc d 188 0 [(0, (0, v1)), (1, (0, 0)), (2, (0, (φ 192 28) - 1))] [] (hf_up φ 192 0 0) x (fun r ψ1 y1 => y1 = x ∧ (∃ z1 : Int, r = some (0, z1) ∧ (hi z1 ∧ (z1 = 0 → Q (some (0, (-1 : Int))) ψ1 x) ∧ (¬ z1 = 0 → 0 ≤ v1 ∧ v1 < 48 ∧ (Q (some (0, ψ1 201 ((v1).toNat))) ψ1 x)))))) :
    hw sc (d + 1) 253 0 [(0, (2, 192)), (1, (0, v1))] [] φ x Q := by
  refine hw_ald (b := 0) (e := 0) (by decide +kernel) rfl (by decide) ?_
  refine hw_k (c := 0) (b := 0) (e := 1) (by decide +kernel) ?_
  refine hr_pi (b := 12) (e := 0) 192 rfl (by decide +kernel) ?_
  refine hw_ld (b := 1) (e := 0) (by decide +kernel) rfl ?_
  refine hw_k (c := 0) (b := 0) (e := 1) (by decide +kernel) ?_
  refine hw_ald (b := 0) (e := 0) (by decide +kernel) rfl (by decide) ?_
  refine hr_gi (w := φ 192 28) (b := 12) (e := 28) 192 rfl (by decide +kernel) (hf_up_ne (fun q => absurd q.2 (by decide))) ?_
  refine hw_k (c := 1) (b := 0) (e := 1) (by decide +kernel) ?_
  refine hw_bin (w := (φ 192 28) - 1) (a0 := 0) (b := 1) (e := 0) (by decide +kernel) rfl ?_
  refine hr_calls (b := 188) (e := 3) (nl := 3) (As := [(0, v1), (0, 0), (0, (φ 192 28) - 1)]) (R := []) (by decide +kernel) rfl rfl (Nat.le_of_ble_eq_true rfl) (Nat.le_of_ble_eq_true rfl) ?_
  refine hw_mono H ?_
  rintro r ψ1 y1 ⟨hyx, z1, hr, H⟩
  subst hyx
  subst hr
  refine ⟨hne0, ?_⟩
  show hw sc (d + 1) 253 16 [(0, (2, 192)), (1, (0, v1))] [(0, z1)] ψ1 y1 Q
  obtain ⟨hz2, ht2, hf2⟩ := H
  refine hw_if (a0 := 0) (b := 0) (e := 28) (by decide +kernel) hz2 (fun q => ?_) (fun q => ?_)
  · have H := ht2 q
    refine hw_k (c := (-1 : Int)) (b := 0) (e := 1) (by decide +kernel) ?_
    exact hw_ret (a0 := 0) (e := 0) (by decide +kernel) (Or.inl rfl) H
  · have H := hf2 q
    refine hw_ald (b := 0) (e := 0) (by decide +kernel) rfl (by decide) ?_
    refine hr_gr (w := 201) (b := 12) (e := 27) 192 rfl (by decide +kernel) ?_
    refine hw_ld (b := 1) (e := 0) (by decide +kernel) rfl ?_
    obtain ⟨hl4, hu4, H⟩ := H
    refine hr_al (b := 1) (a0 := 0) (e := 0) (n := 48) (w := ψ1 201 ((v1).toNat)) 201 rfl (by decide +kernel) (by decide) hl4 hu4 rfl ?_
    refine hw_goto (a0 := 0) (b := 0) (e := 29) (by decide +kernel) ?_
    exact hw_ret (a0 := 0) (e := 0) (by decide +kernel) (Or.inl rfl) H
theorem sf_253_192 {sc : List Int} {d : Nat} {φ : hf_F} {x : Nat} {Q : Option jm_V → hf_F → Nat → Prop} {v1 : Int} (hI : Inv φ) (h1a : (-2147483648 : Int) ≤ v1) (h1b : v1 ≤ 2147483647) (hQ : ∀ (r : Int) (ψ : hf_F), Inv ψ → Fr [192] φ ψ → True → Q (some (0, r)) ψ x) : hw sc (d + 1) 253 0 [(0, (2, 192)), (1, (0, v1))] [] φ x Q := by
  apply sf_253_192_v
  have i1 : Inv (hf_up φ 192 0 0) := iv_up (lo := 0) (u := 1) hI (by decide +kernel) (by omega) (by omega)
  have r1 : Fr [192] φ (hf_up φ 192 0 0) := fr_up (fr_rf) (by decide)
  have f2 := iv_at (a := 192) (k := 28) (lo := 0) (u := 48) hI (by decide +kernel)
  refine sf_188 (φ := (hf_up φ 192 0 0)) i1 (by omega) (by omega) (by omega) (by omega) (by omega) (by omega) (fun z1 ψ1 hI1 hF1 hp1 => ⟨rfl, z1, rfl, ?_⟩)
  have hG1 : Fr [192] φ ψ1 := fr_tr r1 hF1 (by decide)
  refine ⟨by unfold hi; omega, fun q2 => ?_, fun q2 => ?_⟩
  · skip
    exact hQ (-1 : Int) ψ1 hI1 hG1 trivial
  · skip
    refine ⟨by omega, by omega, ?_⟩
    have f3 := iv_ar (a := 201) (s := 0) (t := 48) (lo := (-128 : Int)) (u := 127) (z := v1) hI1 (by decide +kernel) (by omega) (by omega)
    have f4 : ψ1 201 ((v1).toNat) = φ 201 ((v1).toNat) := (hF1 201 (by decide) ((v1).toNat)).trans (hf_up_ne (fun q => absurd q.1 (by decide)))
    have f5 := iv_ar (a := 201) (s := 0) (t := 48) (lo := (-128 : Int)) (u := 127) (z := v1) hI (by decide +kernel) (by omega) (by omega)
    exact hQ (ψ1 201 ((v1).toNat)) ψ1 hI1 hG1 trivial
theorem sf_237_192_v {sc : List Int} {d : Nat} {φ : hf_F} {x : Nat} {Q : Option jm_V → hf_F → Nat → Prop} 
    (H : hi (φ 192 24) ∧ ((φ 192 24) = 0 → Q (some (0, (-1 : Int))) (hf_up φ 192 0 0) x) ∧ (¬ (φ 192 24) = 0 → Q (some (0, φ 192 23)) (hf_up φ 192 0 0) x)) :
    hw sc d 237 0 [(0, (2, 192))] [] φ x Q := by
  refine hw_ald (b := 0) (e := 0) (by decide +kernel) rfl (by decide) ?_
  refine hw_k (c := 0) (b := 0) (e := 1) (by decide +kernel) ?_
  refine hr_pi (b := 12) (e := 0) 192 rfl (by decide +kernel) ?_
  refine hw_ald (b := 0) (e := 0) (by decide +kernel) rfl (by decide) ?_
  refine hr_gz (w := φ 192 24) (b := 12) (e := 24) 192 rfl (by decide +kernel) (hf_up_ne (fun q => absurd q.2 (by decide))) ?_
  obtain ⟨hz1, ht1, hf1⟩ := H
  refine hw_if (a0 := 0) (b := 0) (e := 19) (by decide +kernel) hz1 (fun q => ?_) (fun q => ?_)
  · have H := ht1 q
    refine hw_k (c := (-1 : Int)) (b := 0) (e := 1) (by decide +kernel) ?_
    exact hw_ret (a0 := 0) (e := 0) (by decide +kernel) (Or.inl rfl) H
  · have H := hf1 q
    refine hw_ald (b := 0) (e := 0) (by decide +kernel) rfl (by decide) ?_
    refine hr_gi (w := φ 192 23) (b := 12) (e := 23) 192 rfl (by decide +kernel) (hf_up_ne (fun q => absurd q.2 (by decide))) ?_
    refine hw_goto (a0 := 0) (b := 0) (e := 20) (by decide +kernel) ?_
    exact hw_ret (a0 := 0) (e := 0) (by decide +kernel) (Or.inl rfl) H
theorem sf_237_192 {sc : List Int} {d : Nat} {φ : hf_F} {x : Nat} {Q : Option jm_V → hf_F → Nat → Prop}  (hI : Inv φ)  (hQ : ∀ (r : Int) (ψ : hf_F), Inv ψ → Fr [192] φ ψ → True → Q (some (0, r)) ψ x) : hw sc d 237 0 [(0, (2, 192))] [] φ x Q := by
  apply sf_237_192_v
  have i1 : Inv (hf_up φ 192 0 0) := iv_up (lo := 0) (u := 1) hI (by decide +kernel) (by omega) (by omega)
  have r1 : Fr [192] φ (hf_up φ 192 0 0) := fr_up (fr_rf) (by decide)
  have f2 := iv_at (a := 192) (k := 24) (lo := 0) (u := 1) hI (by decide +kernel)
  refine ⟨by unfold hi; omega, fun q1 => ?_, fun q1 => ?_⟩
  · skip
    exact hQ (-1 : Int) (hf_up φ 192 0 0) i1 r1 trivial
  · skip
    have f3 := iv_at (a := 192) (k := 23) (lo := 0) (u := 7) hI (by decide +kernel)
    exact hQ (φ 192 23) (hf_up φ 192 0 0) i1 r1 trivial
theorem sf_174_192_v {sc : List Int} {d : Nat} {φ : hf_F} {x : Nat} {Q : Option jm_V → hf_F → Nat → Prop} {v1 : Int}
    (H : Q none (hf_up (hf_up (hf_up (hf_up φ 192 3 (φ 192 2)) 192 2 0) 192 4 0) 192 5 v1) x) :
    hw sc d 174 0 [(0, (2, 192)), (1, (0, v1))] [] φ x Q := by
  refine hw_ald (b := 0) (e := 0) (by decide +kernel) rfl (by decide) ?_
  refine hw_ald (b := 0) (e := 0) (by decide +kernel) rfl (by decide) ?_
  refine hr_gi (w := φ 192 2) (b := 12) (e := 2) 192 rfl (by decide +kernel) rfl ?_
  refine hr_pi (b := 12) (e := 3) 192 rfl (by decide +kernel) ?_
  refine hw_ald (b := 0) (e := 0) (by decide +kernel) rfl (by decide) ?_
  refine hw_k (c := 0) (b := 0) (e := 1) (by decide +kernel) ?_
  refine hr_pi (b := 12) (e := 2) 192 rfl (by decide +kernel) ?_
  refine hw_ald (b := 0) (e := 0) (by decide +kernel) rfl (by decide) ?_
  refine hw_k (c := 0) (b := 0) (e := 1) (by decide +kernel) ?_
  refine hr_pi (b := 12) (e := 4) 192 rfl (by decide +kernel) ?_
  refine hw_ald (b := 0) (e := 0) (by decide +kernel) rfl (by decide) ?_
  refine hw_ld (b := 1) (e := 0) (by decide +kernel) rfl ?_
  refine hr_pi (b := 12) (e := 5) 192 rfl (by decide +kernel) ?_
  exact hw_vret (a0 := 0) (e := 0) (by decide +kernel) H
theorem sf_174_192 {sc : List Int} {d : Nat} {φ : hf_F} {x : Nat} {Q : Option jm_V → hf_F → Nat → Prop} {v1 : Int} (hI : Inv φ) (h1a : 0 ≤ v1) (h1b : v1 ≤ 940) (hQ : ∀ ψ : hf_F, Inv ψ → Fr [192] φ ψ → Q none ψ x) : hw sc d 174 0 [(0, (2, 192)), (1, (0, v1))] [] φ x Q := by
  apply sf_174_192_v
  have f1 := iv_at (a := 192) (k := 2) (lo := 0) (u := 940) hI (by decide +kernel)
  have i2 : Inv (hf_up φ 192 3 (φ 192 2)) := iv_up (lo := 0) (u := 940) hI (by decide +kernel) (by omega) (by omega)
  have r2 : Fr [192] φ (hf_up φ 192 3 (φ 192 2)) := fr_up (fr_rf) (by decide)
  have i3 : Inv (hf_up (hf_up φ 192 3 (φ 192 2)) 192 2 0) := iv_up (lo := 0) (u := 940) i2 (by decide +kernel) (by omega) (by omega)
  have r3 : Fr [192] φ (hf_up (hf_up φ 192 3 (φ 192 2)) 192 2 0) := fr_up r2 (by decide)
  have i4 : Inv (hf_up (hf_up (hf_up φ 192 3 (φ 192 2)) 192 2 0) 192 4 0) := iv_up (lo := 0) (u := 940) i3 (by decide +kernel) (by omega) (by omega)
  have r4 : Fr [192] φ (hf_up (hf_up (hf_up φ 192 3 (φ 192 2)) 192 2 0) 192 4 0) := fr_up r3 (by decide)
  have i5 : Inv (hf_up (hf_up (hf_up (hf_up φ 192 3 (φ 192 2)) 192 2 0) 192 4 0) 192 5 v1) := iv_up (lo := 0) (u := 940) i4 (by decide +kernel) (by omega) (by omega)
  have r5 : Fr [192] φ (hf_up (hf_up (hf_up (hf_up φ 192 3 (φ 192 2)) 192 2 0) 192 4 0) 192 5 v1) := fr_up r4 (by decide)
  exact hQ (hf_up (hf_up (hf_up (hf_up φ 192 3 (φ 192 2)) 192 2 0) 192 4 0) 192 5 v1) i5 r5
theorem sf_176_192_v {sc : List Int} {d : Nat} {φ : hf_F} {x : Nat} {Q : Option jm_V → hf_F → Nat → Prop} 
    (H : hi (φ 192 4) ∧ hi (φ 192 3) ∧ ((φ 192 3) ≤ (φ 192 4) → Q (some (0, (-1 : Int))) φ x) ∧ (¬ (φ 192 3) ≤ (φ 192 4) → 0 ≤ (φ 192 4) ∧ (φ 192 4) < 940 ∧ (Q (some (0, hb_and (φ 193 ((φ 192 4).toNat)) 255)) φ x))) :
    hw sc d 176 0 [(0, (2, 192))] [] φ x Q := by
  refine hw_ald (b := 0) (e := 0) (by decide +kernel) rfl (by decide) ?_
  refine hr_gi (w := φ 192 4) (b := 12) (e := 4) 192 rfl (by decide +kernel) rfl ?_
  refine hw_ald (b := 0) (e := 0) (by decide +kernel) rfl (by decide) ?_
  refine hr_gi (w := φ 192 3) (b := 12) (e := 3) 192 rfl (by decide +kernel) rfl ?_
  obtain ⟨hz1, hy1, ht1, hf1⟩ := H
  refine hw_if2 (a0 := 0) (b := 3) (e := 27) (by decide +kernel) hz1 hy1 (fun q => ?_) (fun q => ?_)
  · have H := ht1 q
    refine hw_k (c := (-1 : Int)) (b := 0) (e := 1) (by decide +kernel) ?_
    exact hw_ret (a0 := 0) (e := 0) (by decide +kernel) (Or.inl rfl) H
  · have H := hf1 q
    refine hw_ald (b := 0) (e := 0) (by decide +kernel) rfl (by decide) ?_
    refine hr_gr (w := 193) (b := 12) (e := 1) 192 rfl (by decide +kernel) ?_
    refine hw_ald (b := 0) (e := 0) (by decide +kernel) rfl (by decide) ?_
    refine hr_gi (w := φ 192 4) (b := 12) (e := 4) 192 rfl (by decide +kernel) rfl ?_
    obtain ⟨hl3, hu3, H⟩ := H
    refine hr_al (b := 1) (a0 := 0) (e := 0) (n := 940) (w := φ 193 ((φ 192 4).toNat)) 193 rfl (by decide +kernel) (by decide) hl3 hu3 rfl ?_
    refine hw_k (c := 255) (b := 2) (e := 3) (by decide +kernel) ?_
    refine hw_bin (w := hb_and (φ 193 ((φ 192 4).toNat)) 255) (a0 := 0) (b := 3) (e := 0) (by decide +kernel) rfl ?_
    refine hw_goto (a0 := 0) (b := 0) (e := 28) (by decide +kernel) ?_
    exact hw_ret (a0 := 0) (e := 0) (by decide +kernel) (Or.inl rfl) H
theorem sf_176_192 {sc : List Int} {d : Nat} {φ : hf_F} {x : Nat} {Q : Option jm_V → hf_F → Nat → Prop}  (hI : Inv φ)  (hQ : ∀ (r : Int) (ψ : hf_F), Inv ψ → Fr [] φ ψ → (-1 : Int) ≤ r ∧ r ≤ 255 → Q (some (0, r)) ψ x) : hw sc d 176 0 [(0, (2, 192))] [] φ x Q := by
  apply sf_176_192_v
  have f1 := iv_at (a := 192) (k := 4) (lo := 0) (u := 940) hI (by decide +kernel)
  have f2 := iv_at (a := 192) (k := 3) (lo := 0) (u := 940) hI (by decide +kernel)
  refine ⟨by unfold hi; omega, by unfold hi; omega, fun q1 => ?_, fun q1 => ?_⟩
  · skip
    exact hQ (-1 : Int) φ hI (fr_rf) ⟨by omega, by omega⟩
  · skip
    refine ⟨by omega, by omega, ?_⟩
    have f3 := iv_ar (a := 193) (s := 0) (t := 940) (lo := (-128 : Int)) (u := 127) (z := φ 192 4) hI (by decide +kernel) (by omega) (by omega)
    have f4 := hr_and255 (φ 193 ((φ 192 4).toNat))
    have f5 := hr_and (φ 193 ((φ 192 4).toNat)) 255
    exact hQ (hb_and (φ 193 ((φ 192 4).toNat)) 255) φ hI (fr_rf) ⟨by omega, by omega⟩
theorem sf_177_v {sc : List Int} {d : Nat} {φ : hf_F} {x : Nat} {Q : Option jm_V → hf_F → Nat → Prop} {v0 : Int}
    (H : hi v0 ∧ hi 97 ∧ (v0 < 97 → Q (some (0, 0)) φ x) ∧ (¬ v0 < 97 → hi v0 ∧ hi 122 ∧ (122 < v0 → Q (some (0, 0)) φ x) ∧ (¬ 122 < v0 → Q (some (0, 1)) φ x))) :
    hw sc d 177 0 [(0, (0, v0))] [] φ x Q := by
  refine hw_ld (b := 0) (e := 0) (by decide +kernel) rfl ?_
  refine hw_k (c := 97) (b := 1) (e := 2) (by decide +kernel) ?_
  obtain ⟨hz1, hy1, ht1, hf1⟩ := H
  refine hw_if2 (a0 := 0) (b := 2) (e := 16) (by decide +kernel) hz1 hy1 (fun q => ?_) (fun q => ?_)
  · have H := ht1 q
    refine hw_k (c := 0) (b := 0) (e := 1) (by decide +kernel) ?_
    exact hw_ret (a0 := 0) (e := 1) (by decide +kernel) (Or.inr ⟨rfl, by decide⟩) H
  · have H := hf1 q
    refine hw_ld (b := 0) (e := 0) (by decide +kernel) rfl ?_
    refine hw_k (c := 122) (b := 1) (e := 2) (by decide +kernel) ?_
    obtain ⟨hz3, hy3, ht3, hf3⟩ := H
    refine hw_if2 (a0 := 0) (b := 4) (e := 16) (by decide +kernel) hz3 hy3 (fun q => ?_) (fun q => ?_)
    · have H := ht3 q
      refine hw_k (c := 0) (b := 0) (e := 1) (by decide +kernel) ?_
      exact hw_ret (a0 := 0) (e := 1) (by decide +kernel) (Or.inr ⟨rfl, by decide⟩) H
    · have H := hf3 q
      refine hw_k (c := 1) (b := 0) (e := 1) (by decide +kernel) ?_
      refine hw_goto (a0 := 0) (b := 0) (e := 17) (by decide +kernel) ?_
      exact hw_ret (a0 := 0) (e := 1) (by decide +kernel) (Or.inr ⟨rfl, by decide⟩) H
theorem sf_177 {sc : List Int} {d : Nat} {φ : hf_F} {x : Nat} {Q : Option jm_V → hf_F → Nat → Prop} {v0 : Int} (hI : Inv φ) (h0a : (-1 : Int) ≤ v0) (h0b : v0 ≤ 255) (hQ : ∀ (r : Int) (ψ : hf_F), Inv ψ → Fr [] φ ψ → 0 ≤ r ∧ r ≤ 1 ∧ (r = 1 → 97 ≤ v0 ∧ v0 ≤ 122) → Q (some (0, r)) ψ x) : hw sc d 177 0 [(0, (0, v0))] [] φ x Q := by
  apply sf_177_v
  refine ⟨by unfold hi; omega, by unfold hi; omega, fun q1 => ?_, fun q1 => ?_⟩
  · skip
    exact hQ 0 φ hI (fr_rf) ⟨by omega, by omega, by intros; omega⟩
  · skip
    refine ⟨by unfold hi; omega, by unfold hi; omega, fun q3 => ?_, fun q3 => ?_⟩
    · skip
      exact hQ 0 φ hI (fr_rf) ⟨by omega, by omega, by intros; omega⟩
    · skip
      exact hQ 1 φ hI (fr_rf) ⟨by omega, by omega, by intros; omega⟩
theorem sf_178_v {sc : List Int} {d : Nat} {φ : hf_F} {x : Nat} {Q : Option jm_V → hf_F → Nat → Prop} {v0 : Int}
    (H : hi v0 ∧ hi 48 ∧ (v0 < 48 → Q (some (0, 0)) φ x) ∧ (¬ v0 < 48 → hi v0 ∧ hi 57 ∧ (57 < v0 → Q (some (0, 0)) φ x) ∧ (¬ 57 < v0 → Q (some (0, 1)) φ x))) :
    hw sc d 178 0 [(0, (0, v0))] [] φ x Q := by
  refine hw_ld (b := 0) (e := 0) (by decide +kernel) rfl ?_
  refine hw_k (c := 48) (b := 1) (e := 2) (by decide +kernel) ?_
  obtain ⟨hz1, hy1, ht1, hf1⟩ := H
  refine hw_if2 (a0 := 0) (b := 2) (e := 16) (by decide +kernel) hz1 hy1 (fun q => ?_) (fun q => ?_)
  · have H := ht1 q
    refine hw_k (c := 0) (b := 0) (e := 1) (by decide +kernel) ?_
    exact hw_ret (a0 := 0) (e := 1) (by decide +kernel) (Or.inr ⟨rfl, by decide⟩) H
  · have H := hf1 q
    refine hw_ld (b := 0) (e := 0) (by decide +kernel) rfl ?_
    refine hw_k (c := 57) (b := 1) (e := 2) (by decide +kernel) ?_
    obtain ⟨hz3, hy3, ht3, hf3⟩ := H
    refine hw_if2 (a0 := 0) (b := 4) (e := 16) (by decide +kernel) hz3 hy3 (fun q => ?_) (fun q => ?_)
    · have H := ht3 q
      refine hw_k (c := 0) (b := 0) (e := 1) (by decide +kernel) ?_
      exact hw_ret (a0 := 0) (e := 1) (by decide +kernel) (Or.inr ⟨rfl, by decide⟩) H
    · have H := hf3 q
      refine hw_k (c := 1) (b := 0) (e := 1) (by decide +kernel) ?_
      refine hw_goto (a0 := 0) (b := 0) (e := 17) (by decide +kernel) ?_
      exact hw_ret (a0 := 0) (e := 1) (by decide +kernel) (Or.inr ⟨rfl, by decide⟩) H
theorem sf_178 {sc : List Int} {d : Nat} {φ : hf_F} {x : Nat} {Q : Option jm_V → hf_F → Nat → Prop} {v0 : Int} (hI : Inv φ) (h0a : (-1 : Int) ≤ v0) (h0b : v0 ≤ 255) (hQ : ∀ (r : Int) (ψ : hf_F), Inv ψ → Fr [] φ ψ → 0 ≤ r ∧ r ≤ 1 ∧ (r = 1 → 48 ≤ v0 ∧ v0 ≤ 57) → Q (some (0, r)) ψ x) : hw sc d 178 0 [(0, (0, v0))] [] φ x Q := by
  apply sf_178_v
  refine ⟨by unfold hi; omega, by unfold hi; omega, fun q1 => ?_, fun q1 => ?_⟩
  · skip
    exact hQ 0 φ hI (fr_rf) ⟨by omega, by omega, by intros; omega⟩
  · skip
    refine ⟨by unfold hi; omega, by unfold hi; omega, fun q3 => ?_, fun q3 => ?_⟩
    · skip
      exact hQ 0 φ hI (fr_rf) ⟨by omega, by omega, by intros; omega⟩
    · skip
      exact hQ 1 φ hI (fr_rf) ⟨by omega, by omega, by intros; omega⟩
theorem sf_182_192_v {sc : List Int} {d : Nat} {φ : hf_F} {x : Nat} {Q : Option jm_V → hf_F → Nat → Prop} {v1 : Int}
    (H : Q (some (0, 0)) (hf_up (hf_up φ 192 15 v1) 192 16 (φ 192 12)) x) :
    hw sc d 182 0 [(0, (2, 192)), (1, (0, v1))] [] φ x Q := by
  refine hw_ald (b := 0) (e := 0) (by decide +kernel) rfl (by decide) ?_
  refine hw_ld (b := 1) (e := 0) (by decide +kernel) rfl ?_
  refine hr_pi (b := 12) (e := 15) 192 rfl (by decide +kernel) ?_
  refine hw_ald (b := 0) (e := 0) (by decide +kernel) rfl (by decide) ?_
  refine hw_ald (b := 0) (e := 0) (by decide +kernel) rfl (by decide) ?_
  refine hr_gi (w := φ 192 12) (b := 12) (e := 12) 192 rfl (by decide +kernel) (hf_up_ne (fun q => absurd q.2 (by decide))) ?_
  refine hr_pi (b := 12) (e := 16) 192 rfl (by decide +kernel) ?_
  refine hw_k (c := 0) (b := 0) (e := 1) (by decide +kernel) ?_
  exact hw_ret (a0 := 0) (e := 1) (by decide +kernel) (Or.inr ⟨rfl, by decide⟩) H
theorem sf_182_192 {sc : List Int} {d : Nat} {φ : hf_F} {x : Nat} {Q : Option jm_V → hf_F → Nat → Prop} {v1 : Int} (hI : Inv φ) (h1a : 1 ≤ v1) (h1b : v1 ≤ 4) (hQ : ∀ (r : Int) (ψ : hf_F), Inv ψ → Fr [192] φ ψ → 0 ≤ r ∧ r ≤ 1 → Q (some (0, r)) ψ x) : hw sc d 182 0 [(0, (2, 192)), (1, (0, v1))] [] φ x Q := by
  apply sf_182_192_v
  have i1 : Inv (hf_up φ 192 15 v1) := iv_up (lo := 0) (u := 4) hI (by decide +kernel) (by omega) (by omega)
  have r1 : Fr [192] φ (hf_up φ 192 15 v1) := fr_up (fr_rf) (by decide)
  have f2 := iv_at (a := 192) (k := 12) (lo := 0) (u := 940) hI (by decide +kernel)
  have i3 : Inv (hf_up (hf_up φ 192 15 v1) 192 16 (φ 192 12)) := iv_up (lo := 0) (u := 940) i1 (by decide +kernel) (by omega) (by omega)
  have r3 : Fr [192] φ (hf_up (hf_up φ 192 15 v1) 192 16 (φ 192 12)) := fr_up r1 (by decide)
  exact hQ 0 (hf_up (hf_up φ 192 15 v1) 192 16 (φ 192 12)) i3 r3 ⟨by omega, by omega⟩
theorem sf_180_192_v {sc : List Int} {d : Nat} {φ : hf_F} {x : Nat} {Q : Option jm_V → hf_F → Nat → Prop} {v1 : Int}
    (H : hi (φ 192 11) ∧ hi 1 ∧ (¬ (φ 192 11) = 1 → Q (some (0, 0)) φ x) ∧ (¬ (¬ (φ 192 11) = 1) → hi (jm_cmp (φ 192 17) v1) ∧ (¬ (jm_cmp (φ 192 17) v1) = 0 → Q (some (0, 0)) φ x) ∧ (¬ (¬ (jm_cmp (φ 192 17) v1) = 0) → Q (some (0, 1)) φ x))) :
    hw sc d 180 0 [(0, (2, 192)), (1, (1, v1))] [] φ x Q := by
  refine hw_ald (b := 0) (e := 0) (by decide +kernel) rfl (by decide) ?_
  refine hr_gi (w := φ 192 11) (b := 12) (e := 11) 192 rfl (by decide +kernel) rfl ?_
  refine hw_k (c := 1) (b := 0) (e := 1) (by decide +kernel) ?_
  obtain ⟨hz1, hy1, ht1, hf1⟩ := H
  refine hw_if2 (a0 := 0) (b := 1) (e := 21) (by decide +kernel) hz1 hy1 (fun q => ?_) (fun q => ?_)
  · have H := ht1 q
    refine hw_k (c := 0) (b := 0) (e := 1) (by decide +kernel) ?_
    exact hw_ret (a0 := 0) (e := 1) (by decide +kernel) (Or.inr ⟨rfl, by decide⟩) H
  · have H := hf1 q
    refine hw_ald (b := 0) (e := 0) (by decide +kernel) rfl (by decide) ?_
    refine hr_gl (w := φ 192 17) (b := 12) (e := 17) 192 rfl (by decide +kernel) rfl ?_
    refine hw_lld (b := 1) (e := 0) (by decide +kernel) rfl ?_
    refine hw_lcmp (w := jm_cmp (φ 192 17) v1) (a0 := 0) (b := 0) (e := 0) (by decide +kernel) rfl ?_
    obtain ⟨hz3, ht3, hf3⟩ := H
    refine hw_if (a0 := 0) (b := 1) (e := 21) (by decide +kernel) hz3 (fun q => ?_) (fun q => ?_)
    · have H := ht3 q
      refine hw_k (c := 0) (b := 0) (e := 1) (by decide +kernel) ?_
      exact hw_ret (a0 := 0) (e := 1) (by decide +kernel) (Or.inr ⟨rfl, by decide⟩) H
    · have H := hf3 q
      refine hw_k (c := 1) (b := 0) (e := 1) (by decide +kernel) ?_
      refine hw_goto (a0 := 0) (b := 0) (e := 22) (by decide +kernel) ?_
      exact hw_ret (a0 := 0) (e := 1) (by decide +kernel) (Or.inr ⟨rfl, by decide⟩) H
theorem sf_180_192 {sc : List Int} {d : Nat} {φ : hf_F} {x : Nat} {Q : Option jm_V → hf_F → Nat → Prop} {v1 : Int} (hI : Inv φ)  (hQ : ∀ (r : Int) (ψ : hf_F), Inv ψ → Fr [] φ ψ → 0 ≤ r ∧ r ≤ 1 → Q (some (0, r)) ψ x) : hw sc d 180 0 [(0, (2, 192)), (1, (1, v1))] [] φ x Q := by
  apply sf_180_192_v
  have f1 := iv_at (a := 192) (k := 11) (lo := 0) (u := 4) hI (by decide +kernel)
  refine ⟨by unfold hi; omega, by unfold hi; omega, fun q1 => ?_, fun q1 => ?_⟩
  · skip
    exact hQ 0 φ hI (fr_rf) ⟨by omega, by omega⟩
  · skip
    have f2 := hr_cmp (φ 192 17) v1
    refine ⟨by unfold hi; omega, fun q3 => ?_, fun q3 => ?_⟩
    · skip
      exact hQ 0 φ hI (fr_rf) ⟨by omega, by omega⟩
    · skip
      exact hQ 1 φ hI (fr_rf) ⟨by omega, by omega⟩
theorem sf_199_192_v {sc : List Int} {d : Nat} {φ : hf_F} {x : Nat} {Q : Option jm_V → hf_F → Nat → Prop} {v1 : Int}
    (H : hi (φ 192 11) ∧ hi 3 ∧ (¬ (φ 192 11) = 3 → Q (some (0, 0)) φ x) ∧ (¬ (¬ (φ 192 11) = 3) → hi (φ 192 14) ∧ hi v1 ∧ (¬ (φ 192 14) = v1 → Q (some (0, 0)) φ x) ∧ (¬ (¬ (φ 192 14) = v1) → Q (some (0, 1)) φ x))) :
    hw sc d 199 0 [(0, (2, 192)), (1, (0, v1))] [] φ x Q := by
  refine hw_ald (b := 0) (e := 0) (by decide +kernel) rfl (by decide) ?_
  refine hr_gi (w := φ 192 11) (b := 12) (e := 11) 192 rfl (by decide +kernel) rfl ?_
  refine hw_k (c := 3) (b := 0) (e := 1) (by decide +kernel) ?_
  obtain ⟨hz1, hy1, ht1, hf1⟩ := H
  refine hw_if2 (a0 := 0) (b := 1) (e := 20) (by decide +kernel) hz1 hy1 (fun q => ?_) (fun q => ?_)
  · have H := ht1 q
    refine hw_k (c := 0) (b := 0) (e := 1) (by decide +kernel) ?_
    exact hw_ret (a0 := 0) (e := 1) (by decide +kernel) (Or.inr ⟨rfl, by decide⟩) H
  · have H := hf1 q
    refine hw_ald (b := 0) (e := 0) (by decide +kernel) rfl (by decide) ?_
    refine hr_gi (w := φ 192 14) (b := 12) (e := 14) 192 rfl (by decide +kernel) rfl ?_
    refine hw_ld (b := 1) (e := 0) (by decide +kernel) rfl ?_
    obtain ⟨hz3, hy3, ht3, hf3⟩ := H
    refine hw_if2 (a0 := 0) (b := 1) (e := 20) (by decide +kernel) hz3 hy3 (fun q => ?_) (fun q => ?_)
    · have H := ht3 q
      refine hw_k (c := 0) (b := 0) (e := 1) (by decide +kernel) ?_
      exact hw_ret (a0 := 0) (e := 1) (by decide +kernel) (Or.inr ⟨rfl, by decide⟩) H
    · have H := hf3 q
      refine hw_k (c := 1) (b := 0) (e := 1) (by decide +kernel) ?_
      refine hw_goto (a0 := 0) (b := 0) (e := 21) (by decide +kernel) ?_
      exact hw_ret (a0 := 0) (e := 1) (by decide +kernel) (Or.inr ⟨rfl, by decide⟩) H
theorem sf_199_192 {sc : List Int} {d : Nat} {φ : hf_F} {x : Nat} {Q : Option jm_V → hf_F → Nat → Prop} {v1 : Int} (hI : Inv φ) (h1a : 0 ≤ v1) (h1b : v1 ≤ 255) (hQ : ∀ (r : Int) (ψ : hf_F), Inv ψ → Fr [] φ ψ → 0 ≤ r ∧ r ≤ 1 → Q (some (0, r)) ψ x) : hw sc d 199 0 [(0, (2, 192)), (1, (0, v1))] [] φ x Q := by
  apply sf_199_192_v
  have f1 := iv_at (a := 192) (k := 11) (lo := 0) (u := 4) hI (by decide +kernel)
  refine ⟨by unfold hi; omega, by unfold hi; omega, fun q1 => ?_, fun q1 => ?_⟩
  · skip
    exact hQ 0 φ hI (fr_rf) ⟨by omega, by omega⟩
  · skip
    have f2 := iv_at (a := 192) (k := 14) (lo := 0) (u := 8214) hI (by decide +kernel)
    refine ⟨by unfold hi; omega, by unfold hi; omega, fun q3 => ?_, fun q3 => ?_⟩
    · skip
      exact hQ 0 φ hI (fr_rf) ⟨by omega, by omega⟩
    · skip
      exact hQ 1 φ hI (fr_rf) ⟨by omega, by omega⟩
theorem sf_202_192_v {sc : List Int} {d : Nat} {φ : hf_F} {x : Nat} {Q : Option jm_V → hf_F → Nat → Prop} {v1 : Int}
    (H : hw sc d 188 0 [(0, (0, v1)), (1, (0, 0)), (2, (0, (φ 194 3) - 1))] [] φ x (fun r ψ1 y1 => y1 = x ∧ (∃ z1 : Int, r = some (0, z1) ∧ ((z1 = 0 ∨ z1 = 1) ∧ Q (some (0, z1)) ψ1 x)))) :
    hw sc (d + 1) 202 0 [(0, (2, 192)), (1, (0, v1))] [] φ x Q := by
  refine hw_ld (b := 1) (e := 0) (by decide +kernel) rfl ?_
  refine hw_k (c := 0) (b := 0) (e := 1) (by decide +kernel) ?_
  refine hw_ald (b := 0) (e := 0) (by decide +kernel) rfl (by decide) ?_
  refine hr_gr (w := 194) (b := 12) (e := 6) 192 rfl (by decide +kernel) ?_
  refine hw_k (c := 3) (b := 0) (e := 1) (by decide +kernel) ?_
  refine hr_al (b := 0) (a0 := 0) (e := 0) (n := 361) (w := φ 194 3) 194 rfl (by decide +kernel) (by decide) (by decide) (by decide) rfl ?_
  refine hw_k (c := 1) (b := 0) (e := 1) (by decide +kernel) ?_
  refine hw_bin (w := (φ 194 3) - 1) (a0 := 0) (b := 1) (e := 0) (by decide +kernel) rfl ?_
  refine hr_calls (b := 188) (e := 3) (nl := 3) (As := [(0, v1), (0, 0), (0, (φ 194 3) - 1)]) (R := []) (by decide +kernel) rfl rfl (Nat.le_of_ble_eq_true rfl) (Nat.le_of_ble_eq_true rfl) ?_
  refine hw_mono H ?_
  rintro r ψ1 y1 ⟨hyx, z1, hr, H⟩
  subst hyx
  subst hr
  refine ⟨hne0, ?_⟩
  show hw sc (d + 1) 202 13 [(0, (2, 192)), (1, (0, v1))] [(0, z1)] ψ1 y1 Q
  exact hw_ret (a0 := 0) (e := 1) (by decide +kernel) (Or.inr ⟨rfl, H.1⟩) H.2
theorem sf_202_192 {sc : List Int} {d : Nat} {φ : hf_F} {x : Nat} {Q : Option jm_V → hf_F → Nat → Prop} {v1 : Int} (hI : Inv φ) (h1a : (-2147483648 : Int) ≤ v1) (h1b : v1 ≤ 2147483647) (hQ : ∀ (r : Int) (ψ : hf_F), Inv ψ → Fr [] φ ψ → 0 ≤ r ∧ r ≤ 1 ∧ (r = 1 → 0 ≤ v1 ∧ v1 < φ 194 3 ∧ φ 194 3 ≤ 6) → Q (some (0, r)) ψ x) : hw sc (d + 1) 202 0 [(0, (2, 192)), (1, (0, v1))] [] φ x Q := by
  apply sf_202_192_v
  have f1 := iv_at (a := 194) (k := 3) (lo := 0) (u := 6) hI (by decide +kernel)
  refine sf_188 (φ := φ) hI (by omega) (by omega) (by omega) (by omega) (by omega) (by omega) (fun z1 ψ1 hI1 hF1 hp1 => ⟨rfl, z1, rfl, ?_⟩)
  have hG1 : Fr [] φ ψ1 := fr_tr (fr_rf) hF1 (by decide)
  refine ⟨by omega, ?_⟩
  exact hQ z1 ψ1 hI1 hG1 ⟨by omega, by omega, by intros; omega⟩
theorem sf_208_192_v {sc : List Int} {d : Nat} {φ : hf_F} {x : Nat} {Q : Option jm_V → hf_F → Nat → Prop} {v1 : Int}
    (H : hw sc d 188 0 [(0, (0, v1)), (1, (0, 0)), (2, (0, (φ 194 1) - 1))] [] φ x (fun r ψ1 y1 => y1 = x ∧ (∃ z1 : Int, r = some (0, z1) ∧ ((z1 = 0 ∨ z1 = 1) ∧ Q (some (0, z1)) ψ1 x)))) :
    hw sc (d + 1) 208 0 [(0, (2, 192)), (1, (0, v1))] [] φ x Q := by
  refine hw_ld (b := 1) (e := 0) (by decide +kernel) rfl ?_
  refine hw_k (c := 0) (b := 0) (e := 1) (by decide +kernel) ?_
  refine hw_ald (b := 0) (e := 0) (by decide +kernel) rfl (by decide) ?_
  refine hr_gr (w := 194) (b := 12) (e := 6) 192 rfl (by decide +kernel) ?_
  refine hw_k (c := 1) (b := 0) (e := 1) (by decide +kernel) ?_
  refine hr_al (b := 0) (a0 := 0) (e := 0) (n := 361) (w := φ 194 1) 194 rfl (by decide +kernel) (by decide) (by decide) (by decide) rfl ?_
  refine hw_k (c := 1) (b := 0) (e := 1) (by decide +kernel) ?_
  refine hw_bin (w := (φ 194 1) - 1) (a0 := 0) (b := 1) (e := 0) (by decide +kernel) rfl ?_
  refine hr_calls (b := 188) (e := 3) (nl := 3) (As := [(0, v1), (0, 0), (0, (φ 194 1) - 1)]) (R := []) (by decide +kernel) rfl rfl (Nat.le_of_ble_eq_true rfl) (Nat.le_of_ble_eq_true rfl) ?_
  refine hw_mono H ?_
  rintro r ψ1 y1 ⟨hyx, z1, hr, H⟩
  subst hyx
  subst hr
  refine ⟨hne0, ?_⟩
  show hw sc (d + 1) 208 13 [(0, (2, 192)), (1, (0, v1))] [(0, z1)] ψ1 y1 Q
  exact hw_ret (a0 := 0) (e := 1) (by decide +kernel) (Or.inr ⟨rfl, H.1⟩) H.2
theorem sf_208_192 {sc : List Int} {d : Nat} {φ : hf_F} {x : Nat} {Q : Option jm_V → hf_F → Nat → Prop} {v1 : Int} (hI : Inv φ) (h1a : (-2147483648 : Int) ≤ v1) (h1b : v1 ≤ 2147483647) (hQ : ∀ (r : Int) (ψ : hf_F), Inv ψ → Fr [] φ ψ → 0 ≤ r ∧ r ≤ 1 ∧ (r = 1 → 0 ≤ v1 ∧ v1 < φ 194 1 ∧ φ 194 1 ≤ 8) → Q (some (0, r)) ψ x) : hw sc (d + 1) 208 0 [(0, (2, 192)), (1, (0, v1))] [] φ x Q := by
  apply sf_208_192_v
  have f1 := iv_at (a := 194) (k := 1) (lo := 0) (u := 8) hI (by decide +kernel)
  refine sf_188 (φ := φ) hI (by omega) (by omega) (by omega) (by omega) (by omega) (by omega) (fun z1 ψ1 hI1 hF1 hp1 => ⟨rfl, z1, rfl, ?_⟩)
  have hG1 : Fr [] φ ψ1 := fr_tr (fr_rf) hF1 (by decide)
  refine ⟨by omega, ?_⟩
  exact hQ z1 ψ1 hI1 hG1 ⟨by omega, by omega, by intros; omega⟩
theorem sf_211_192_v {sc : List Int} {d : Nat} {φ : hf_F} {x : Nat} {Q : Option jm_V → hf_F → Nat → Prop} {v1 : Int}
    (H : hw sc d 188 0 [(0, (0, v1)), (1, (0, 0)), (2, (0, (φ 194 4) - 1))] [] φ x (fun r ψ1 y1 => y1 = x ∧ (∃ z1 : Int, r = some (0, z1) ∧ ((z1 = 0 ∨ z1 = 1) ∧ Q (some (0, z1)) ψ1 x)))) :
    hw sc (d + 1) 211 0 [(0, (2, 192)), (1, (0, v1))] [] φ x Q := by
  refine hw_ld (b := 1) (e := 0) (by decide +kernel) rfl ?_
  refine hw_k (c := 0) (b := 0) (e := 1) (by decide +kernel) ?_
  refine hw_ald (b := 0) (e := 0) (by decide +kernel) rfl (by decide) ?_
  refine hr_gr (w := 194) (b := 12) (e := 6) 192 rfl (by decide +kernel) ?_
  refine hw_k (c := 4) (b := 0) (e := 1) (by decide +kernel) ?_
  refine hr_al (b := 0) (a0 := 0) (e := 0) (n := 361) (w := φ 194 4) 194 rfl (by decide +kernel) (by decide) (by decide) (by decide) rfl ?_
  refine hw_k (c := 1) (b := 0) (e := 1) (by decide +kernel) ?_
  refine hw_bin (w := (φ 194 4) - 1) (a0 := 0) (b := 1) (e := 0) (by decide +kernel) rfl ?_
  refine hr_calls (b := 188) (e := 3) (nl := 3) (As := [(0, v1), (0, 0), (0, (φ 194 4) - 1)]) (R := []) (by decide +kernel) rfl rfl (Nat.le_of_ble_eq_true rfl) (Nat.le_of_ble_eq_true rfl) ?_
  refine hw_mono H ?_
  rintro r ψ1 y1 ⟨hyx, z1, hr, H⟩
  subst hyx
  subst hr
  refine ⟨hne0, ?_⟩
  show hw sc (d + 1) 211 13 [(0, (2, 192)), (1, (0, v1))] [(0, z1)] ψ1 y1 Q
  exact hw_ret (a0 := 0) (e := 1) (by decide +kernel) (Or.inr ⟨rfl, H.1⟩) H.2
theorem sf_211_192 {sc : List Int} {d : Nat} {φ : hf_F} {x : Nat} {Q : Option jm_V → hf_F → Nat → Prop} {v1 : Int} (hI : Inv φ) (h1a : (-2147483648 : Int) ≤ v1) (h1b : v1 ≤ 2147483647) (hQ : ∀ (r : Int) (ψ : hf_F), Inv ψ → Fr [] φ ψ → 0 ≤ r ∧ r ≤ 1 ∧ (r = 1 → 0 ≤ v1 ∧ v1 < φ 194 4 ∧ φ 194 4 ≤ 8) → Q (some (0, r)) ψ x) : hw sc (d + 1) 211 0 [(0, (2, 192)), (1, (0, v1))] [] φ x Q := by
  apply sf_211_192_v
  have f1 := iv_at (a := 194) (k := 4) (lo := 0) (u := 8) hI (by decide +kernel)
  refine sf_188 (φ := φ) hI (by omega) (by omega) (by omega) (by omega) (by omega) (by omega) (fun z1 ψ1 hI1 hF1 hp1 => ⟨rfl, z1, rfl, ?_⟩)
  have hG1 : Fr [] φ ψ1 := fr_tr (fr_rf) hF1 (by decide)
  refine ⟨by omega, ?_⟩
  exact hQ z1 ψ1 hI1 hG1 ⟨by omega, by omega, by intros; omega⟩
theorem sf_209_192_v2 {sc : List Int} {d : Nat} {φ : hf_F} {x : Nat} {Q : Option jm_V → hf_F → Nat → Prop} {L : jm_L} {l1 l2 : Int} (g0 : jm_get L 0 = some (2, 192)) (g1 : jm_get L 1 = some (0, l1)) (g2 : jm_get L 2 = some (0, l2))
    (H : hi l2 ∧ hi (φ 194 3) ∧ ((φ 194 3) ≤ l2 → Q (some (0, (-1 : Int))) φ x) ∧ (¬ (φ 194 3) ≤ l2 → 0 ≤ (112 + l2) ∧ (112 + l2) < 361 ∧ (hi (φ 194 ((112 + l2).toNat)) ∧ hi (l1 + 1) ∧ (¬ (φ 194 ((112 + l2).toNat)) = (l1 + 1) → hw sc d 209 2 (jm_st1 L 2 (0, l2 + 1)) [] φ x Q) ∧ (¬ (¬ (φ 194 ((112 + l2).toNat)) = (l1 + 1)) → Q (some (0, l2)) φ x)))) :
    hw sc d 209 2 L [] φ x Q := by
  refine hw_ld (b := 2) (e := 0) (by decide +kernel) g2 ?_
  refine hw_ald (b := 0) (e := 0) (by decide +kernel) g0 (by decide) ?_
  refine hr_gr (w := 194) (b := 12) (e := 6) 192 rfl (by decide +kernel) ?_
  refine hw_k (c := 3) (b := 0) (e := 1) (by decide +kernel) ?_
  refine hr_al (b := 0) (a0 := 0) (e := 0) (n := 361) (w := φ 194 3) 194 rfl (by decide +kernel) (by decide) (by decide) (by decide) rfl ?_
  obtain ⟨hz1, hy1, ht1, hf1⟩ := H
  refine hw_if2 (a0 := 0) (b := 3) (e := 35) (by decide +kernel) hz1 hy1 (fun q => ?_) (fun q => ?_)
  · have H := ht1 q
    refine hw_k (c := (-1 : Int)) (b := 0) (e := 1) (by decide +kernel) ?_
    exact hw_ret (a0 := 0) (e := 0) (by decide +kernel) (Or.inl rfl) H
  · have H := hf1 q
    refine hw_ald (b := 0) (e := 0) (by decide +kernel) g0 (by decide) ?_
    refine hr_gr (w := 194) (b := 12) (e := 6) 192 rfl (by decide +kernel) ?_
    refine hw_k (c := 112) (b := 1) (e := 2) (by decide +kernel) ?_
    refine hw_ld (b := 2) (e := 0) (by decide +kernel) g2 ?_
    refine hw_bin (w := 112 + l2) (a0 := 0) (b := 0) (e := 0) (by decide +kernel) rfl ?_
    obtain ⟨hl3, hu3, H⟩ := H
    refine hr_al (b := 0) (a0 := 0) (e := 0) (n := 361) (w := φ 194 ((112 + l2).toNat)) 194 rfl (by decide +kernel) (by decide) hl3 hu3 rfl ?_
    refine hw_ld (b := 1) (e := 0) (by decide +kernel) g1 ?_
    refine hw_k (c := 1) (b := 0) (e := 1) (by decide +kernel) ?_
    refine hw_bin (w := l1 + 1) (a0 := 0) (b := 0) (e := 0) (by decide +kernel) rfl ?_
    obtain ⟨hz4, hy4, ht4, hf4⟩ := H
    refine hw_if2 (a0 := 0) (b := 1) (e := 29) (by decide +kernel) hz4 hy4 (fun q => ?_) (fun q => ?_)
    · have H := ht4 q
      refine hw_inc (L' := (jm_st1 L 2 (0, l2 + 1))) (c := 1) (b := 2) (e := 0) (by decide +kernel) g2 rfl ?_
      refine hw_goto (a0 := 0) (b := 0) (e := 2) (by decide +kernel) ?_
      exact H
    · have H := hf4 q
      refine hw_ld (b := 2) (e := 0) (by decide +kernel) g2 ?_
      exact hw_ret (a0 := 0) (e := 0) (by decide +kernel) (Or.inl rfl) H
theorem sf_209_192_l2 {sc : List Int} {d x : Nat} {Q : Option jm_V → hf_F → Nat → Prop} : ∀ (n : Nat) (φ : hf_F) (L : jm_L) (l1 l2 : Int), jm_get L 0 = some (2, 192) → jm_get L 1 = some (0, l1) → jm_get L 2 = some (0, l2) → Inv φ → 6 - l2 < (n : Int) → 0 ≤ l1 → l1 ≤ 7 → 0 ≤ l2 → l2 ≤ 6 → (∀ (r : Int) (ψ : hf_F), Inv ψ → Fr [] φ ψ → (-1 : Int) ≤ r ∧ r ≤ 5 → Q (some (0, r)) ψ x) → hw sc d 209 2 L [] φ x Q := by
  intro n
  induction n with
  | zero =>
    intro φ L l1 l2 g0 g1 g2 hI hM b1a b1b b2a b2b hQ
    exfalso
    omega
  | succ n ih =>
    intro φ L l1 l2 g0 g1 g2 hI hM b1a b1b b2a b2b hQ
    refine sf_209_192_v2 g0 g1 g2 ?_
    have f1 := iv_at (a := 194) (k := 3) (lo := 0) (u := 6) hI (by decide +kernel)
    refine ⟨by unfold hi; omega, by unfold hi; omega, fun q1 => ?_, fun q1 => ?_⟩
    · skip
      exact hQ (-1 : Int) φ hI (fr_rf) ⟨by omega, by omega⟩
    · skip
      refine ⟨by omega, by omega, ?_⟩
      have f2 := iv_ar (a := 194) (s := 112) (t := 118) (lo := 0) (u := 8) (z := 112 + l2) hI (by decide +kernel) (by omega) (by omega)
      refine ⟨by unfold hi; omega, by unfold hi; omega, fun q4 => ?_, fun q4 => ?_⟩
      · skip
        exact ih φ (jm_st1 L 2 (0, l2 + 1)) l1 (l2 + 1) (get_st1 g0 (by decide) (fun q => absurd q.1 (by decide))) (get_st1 g1 (by decide) (fun q => tg0 q.2)) get_st1e hI (by omega) (by omega) (by omega) (by omega) (by omega) (fun rr χ hIχ hFχ hpχ => hQ rr χ hIχ (fr_tr (fr_rf) hFχ (by decide)) hpχ)
      · skip
        exact hQ l2 φ hI (fr_rf) ⟨by omega, by omega⟩
theorem sf_209_192_v {sc : List Int} {d : Nat} {φ : hf_F} {x : Nat} {Q : Option jm_V → hf_F → Nat → Prop} {v1 : Int}
    (H : hw sc d 209 2 (jm_st1 [(0, (2, 192)), (1, (0, v1))] 2 (0, 0)) [] φ x Q) :
    hw sc d 209 0 [(0, (2, 192)), (1, (0, v1))] [] φ x Q := by
  refine hw_k (c := 0) (b := 0) (e := 1) (by decide +kernel) ?_
  refine hw_st (L' := (jm_st1 [(0, (2, 192)), (1, (0, v1))] 2 (0, 0))) (b := 2) (e := 0) (by decide +kernel) rfl ?_
  exact H
theorem sf_209_192 {sc : List Int} {d : Nat} {φ : hf_F} {x : Nat} {Q : Option jm_V → hf_F → Nat → Prop} {v1 : Int} (hI : Inv φ) (h1a : 0 ≤ v1) (h1b : v1 ≤ 7) (hQ : ∀ (r : Int) (ψ : hf_F), Inv ψ → Fr [] φ ψ → (-1 : Int) ≤ r ∧ r ≤ 5 → Q (some (0, r)) ψ x) : hw sc d 209 0 [(0, (2, 192)), (1, (0, v1))] [] φ x Q := by
  apply sf_209_192_v
  exact sf_209_192_l2 ((6 - 0 : Int).toNat + 1) φ (jm_st1 [(0, (2, 192)), (1, (0, v1))] 2 (0, 0)) v1 0 (get_st1 rfl (by decide) (fun q => absurd q.1 (by decide))) (get_st1 rfl (by decide) (fun q => tg0 q.2)) get_st1e hI (by omega) (by omega) (by omega) (by omega) (by omega) (fun rr χ hIχ hFχ hpχ => hQ rr χ hIχ (fr_tr (fr_rf) hFχ (by decide)) hpχ)
theorem sf_205_192_v4 {sc : List Int} {d : Nat} {φ : hf_F} {x : Nat} {Q : Option jm_V → hf_F → Nat → Prop} {L : jm_L} {l1 l2 l3 : Int} (g0 : jm_get L 0 = some (2, 192)) (g1 : jm_get L 1 = some (0, l1)) (g2 : jm_get L 2 = some (0, l2)) (g3 : jm_get L 3 = some (0, l3))
    (H : 0 ≤ (118 + l1) ∧ (118 + l1) < 361 ∧ (hi l3 ∧ hi (φ 194 ((118 + l1).toNat)) ∧ ((φ 194 ((118 + l1).toNat)) ≤ l3 → Q (some (0, l2)) φ x) ∧ (¬ (φ 194 ((118 + l1).toNat)) ≤ l3 → 0 ≤ ((124 + (6 * l1)) + l3) ∧ ((124 + (6 * l1)) + l3) < 361 ∧ (hw sc d 205 4 (jm_st1 (jm_st1 L 2 (0, hb_or l2 (hb_shl 1 (φ 194 (((124 + (6 * l1)) + l3).toNat))))) 3 (0, l3 + 1)) [] φ x Q)))) :
    hw sc d 205 4 L [] φ x Q := by
  refine hw_ld (b := 3) (e := 0) (by decide +kernel) g3 ?_
  refine hw_ald (b := 0) (e := 0) (by decide +kernel) g0 (by decide) ?_
  refine hr_gr (w := 194) (b := 12) (e := 6) 192 rfl (by decide +kernel) ?_
  refine hw_k (c := 118) (b := 1) (e := 2) (by decide +kernel) ?_
  refine hw_ld (b := 1) (e := 0) (by decide +kernel) g1 ?_
  refine hw_bin (w := 118 + l1) (a0 := 0) (b := 0) (e := 0) (by decide +kernel) rfl ?_
  obtain ⟨hl1, hu1, H⟩ := H
  refine hr_al (b := 0) (a0 := 0) (e := 0) (n := 361) (w := φ 194 ((118 + l1).toNat)) 194 rfl (by decide +kernel) (by decide) hl1 hu1 rfl ?_
  obtain ⟨hz2, hy2, ht2, hf2⟩ := H
  refine hw_if2 (a0 := 0) (b := 3) (e := 42) (by decide +kernel) hz2 hy2 (fun q => ?_) (fun q => ?_)
  · have H := ht2 q
    refine hw_ld (b := 2) (e := 0) (by decide +kernel) g2 ?_
    exact hw_ret (a0 := 0) (e := 0) (by decide +kernel) (Or.inl rfl) H
  · have H := hf2 q
    refine hw_ld (b := 2) (e := 0) (by decide +kernel) g2 ?_
    refine hw_k (c := 1) (b := 0) (e := 1) (by decide +kernel) ?_
    refine hw_ald (b := 0) (e := 0) (by decide +kernel) g0 (by decide) ?_
    refine hr_gr (w := 194) (b := 12) (e := 6) 192 rfl (by decide +kernel) ?_
    refine hw_k (c := 124) (b := 1) (e := 2) (by decide +kernel) ?_
    refine hw_k (c := 6) (b := 1) (e := 2) (by decide +kernel) ?_
    refine hw_ld (b := 1) (e := 0) (by decide +kernel) g1 ?_
    refine hw_bin (w := 6 * l1) (a0 := 0) (b := 2) (e := 0) (by decide +kernel) rfl ?_
    refine hw_bin (w := 124 + (6 * l1)) (a0 := 0) (b := 0) (e := 0) (by decide +kernel) rfl ?_
    refine hw_ld (b := 3) (e := 0) (by decide +kernel) g3 ?_
    refine hw_bin (w := (124 + (6 * l1)) + l3) (a0 := 0) (b := 0) (e := 0) (by decide +kernel) rfl ?_
    obtain ⟨hl4, hu4, H⟩ := H
    refine hr_al (b := 0) (a0 := 0) (e := 0) (n := 361) (w := φ 194 (((124 + (6 * l1)) + l3).toNat)) 194 rfl (by decide +kernel) (by decide) hl4 hu4 rfl ?_
    refine hw_bin (w := hb_shl 1 (φ 194 (((124 + (6 * l1)) + l3).toNat))) (a0 := 0) (b := 6) (e := 0) (by decide +kernel) rfl ?_
    refine hw_bin (w := hb_or l2 (hb_shl 1 (φ 194 (((124 + (6 * l1)) + l3).toNat)))) (a0 := 0) (b := 4) (e := 0) (by decide +kernel) rfl ?_
    refine hw_st (L' := (jm_st1 L 2 (0, hb_or l2 (hb_shl 1 (φ 194 (((124 + (6 * l1)) + l3).toNat)))))) (b := 2) (e := 0) (by decide +kernel) rfl ?_
    refine hw_inc (L' := (jm_st1 (jm_st1 L 2 (0, hb_or l2 (hb_shl 1 (φ 194 (((124 + (6 * l1)) + l3).toNat))))) 3 (0, l3 + 1))) (c := 1) (b := 3) (e := 0) (by decide +kernel) (get_st1 g3 (by decide) (fun q => absurd q.1 (by decide))) rfl ?_
    refine hw_goto (a0 := 0) (b := 0) (e := 4) (by decide +kernel) ?_
    exact H
theorem sf_205_192_l4 {sc : List Int} {d x : Nat} {Q : Option jm_V → hf_F → Nat → Prop} : ∀ (n : Nat) (φ : hf_F) (L : jm_L) (l1 l2 l3 : Int), jm_get L 0 = some (2, 192) → jm_get L 1 = some (0, l1) → jm_get L 2 = some (0, l2) → jm_get L 3 = some (0, l3) → Inv φ → 6 - l3 < (n : Int) → 0 ≤ l1 → l1 ≤ 5 → (-2147483648 : Int) ≤ l2 → l2 ≤ 2147483647 → 0 ≤ l3 → l3 ≤ 6 → (∀ (r : Int) (ψ : hf_F), Inv ψ → Fr [] φ ψ → True → Q (some (0, r)) ψ x) → hw sc d 205 4 L [] φ x Q := by
  intro n
  induction n with
  | zero =>
    intro φ L l1 l2 l3 g0 g1 g2 g3 hI hM b1a b1b b2a b2b b3a b3b hQ
    exfalso
    omega
  | succ n ih =>
    intro φ L l1 l2 l3 g0 g1 g2 g3 hI hM b1a b1b b2a b2b b3a b3b hQ
    refine sf_205_192_v4 g0 g1 g2 g3 ?_
    refine ⟨by omega, by omega, ?_⟩
    have f1 := iv_ar (a := 194) (s := 118) (t := 124) (lo := 0) (u := 6) (z := 118 + l1) hI (by decide +kernel) (by omega) (by omega)
    refine ⟨by unfold hi; omega, by unfold hi; omega, fun q2 => ?_, fun q2 => ?_⟩
    · skip
      exact hQ l2 φ hI (fr_rf) trivial
    · skip
      refine ⟨by omega, by omega, ?_⟩
      have f2 := iv_ar (a := 194) (s := 124) (t := 160) (lo := 0) (u := 7) (z := (124 + (6 * l1)) + l3) hI (by decide +kernel) (by omega) (by omega)
      have f3 := hr_shl 1 (φ 194 (((124 + (6 * l1)) + l3).toNat))
      have f4 := hr_or l2 (hb_shl 1 (φ 194 (((124 + (6 * l1)) + l3).toNat)))
      exact ih φ (jm_st1 (jm_st1 L 2 (0, hb_or l2 (hb_shl 1 (φ 194 (((124 + (6 * l1)) + l3).toNat))))) 3 (0, l3 + 1)) l1 (hb_or l2 (hb_shl 1 (φ 194 (((124 + (6 * l1)) + l3).toNat)))) (l3 + 1) (get_st1 (get_st1 g0 (by decide) (fun q => absurd q.1 (by decide))) (by decide) (fun q => absurd q.1 (by decide))) (get_st1 (get_st1 g1 (by decide) (fun q => tg0 q.2)) (by decide) (fun q => absurd q.1 (by decide))) (get_st1 get_st1e (by decide) (fun q => tg0 q.2)) get_st1e hI (by omega) (by omega) (by omega) (by omega) (by omega) (by omega) (by omega) (fun rr χ hIχ hFχ hpχ => hQ rr χ hIχ (fr_tr (fr_rf) hFχ (by decide)) hpχ)
theorem sf_205_192_v {sc : List Int} {d : Nat} {φ : hf_F} {x : Nat} {Q : Option jm_V → hf_F → Nat → Prop} {v1 : Int}
    (H : hw sc d 205 4 (jm_st1 (jm_st1 [(0, (2, 192)), (1, (0, v1))] 2 (0, 0)) 3 (0, 0)) [] φ x Q) :
    hw sc d 205 0 [(0, (2, 192)), (1, (0, v1))] [] φ x Q := by
  refine hw_k (c := 0) (b := 0) (e := 1) (by decide +kernel) ?_
  refine hw_st (L' := (jm_st1 [(0, (2, 192)), (1, (0, v1))] 2 (0, 0))) (b := 2) (e := 0) (by decide +kernel) rfl ?_
  refine hw_k (c := 0) (b := 0) (e := 1) (by decide +kernel) ?_
  refine hw_st (L' := (jm_st1 (jm_st1 [(0, (2, 192)), (1, (0, v1))] 2 (0, 0)) 3 (0, 0))) (b := 3) (e := 0) (by decide +kernel) rfl ?_
  exact H
theorem sf_205_192 {sc : List Int} {d : Nat} {φ : hf_F} {x : Nat} {Q : Option jm_V → hf_F → Nat → Prop} {v1 : Int} (hI : Inv φ) (h1a : 0 ≤ v1) (h1b : v1 ≤ 5) (hQ : ∀ (r : Int) (ψ : hf_F), Inv ψ → Fr [] φ ψ → True → Q (some (0, r)) ψ x) : hw sc d 205 0 [(0, (2, 192)), (1, (0, v1))] [] φ x Q := by
  apply sf_205_192_v
  exact sf_205_192_l4 ((6 - 0 : Int).toNat + 1) φ (jm_st1 (jm_st1 [(0, (2, 192)), (1, (0, v1))] 2 (0, 0)) 3 (0, 0)) v1 0 0 (get_st1 (get_st1 rfl (by decide) (fun q => absurd q.1 (by decide))) (by decide) (fun q => absurd q.1 (by decide))) (get_st1 (get_st1 rfl (by decide) (fun q => tg0 q.2)) (by decide) (fun q => absurd q.1 (by decide))) (get_st1 get_st1e (by decide) (fun q => tg0 q.2)) get_st1e hI (by omega) (by omega) (by omega) (by omega) (by omega) (by omega) (by omega) (fun rr χ hIχ hFχ hpχ => hQ rr χ hIχ (fr_tr (fr_rf) hFχ (by decide)) hpχ)
theorem sf_204_192_v {sc : List Int} {d : Nat} {φ : hf_F} {x : Nat} {Q : Option jm_V → hf_F → Nat → Prop} {v1 : Int}
    (H : 0 ≤ (118 + v1) ∧ (118 + v1) < 361 ∧ (hi (φ 194 ((118 + v1).toNat)) ∧ (¬ (φ 194 ((118 + v1).toNat)) = 0 → 0 ≤ (160 + v1) ∧ (160 + v1) < 361 ∧ (0 ≤ ((124 + (6 * v1)) + (φ 194 ((160 + v1).toNat))) ∧ ((124 + (6 * v1)) + (φ 194 ((160 + v1).toNat))) < 361 ∧ (Q (some (0, φ 194 (((124 + (6 * v1)) + (φ 194 ((160 + v1).toNat))).toNat))) φ x))) ∧ (¬ (¬ (φ 194 ((118 + v1).toNat)) = 0) → Q (some (0, (-1 : Int))) φ x))) :
    hw sc d 204 0 [(0, (2, 192)), (1, (0, v1))] [] φ x Q := by
  refine hw_ald (b := 0) (e := 0) (by decide +kernel) rfl (by decide) ?_
  refine hr_gr (w := 194) (b := 12) (e := 6) 192 rfl (by decide +kernel) ?_
  refine hw_k (c := 118) (b := 1) (e := 2) (by decide +kernel) ?_
  refine hw_ld (b := 1) (e := 0) (by decide +kernel) rfl ?_
  refine hw_bin (w := 118 + v1) (a0 := 0) (b := 0) (e := 0) (by decide +kernel) rfl ?_
  obtain ⟨hl1, hu1, H⟩ := H
  refine hr_al (b := 0) (a0 := 0) (e := 0) (n := 361) (w := φ 194 ((118 + v1).toNat)) 194 rfl (by decide +kernel) (by decide) hl1 hu1 rfl ?_
  obtain ⟨hz2, ht2, hf2⟩ := H
  refine hw_if (a0 := 0) (b := 1) (e := 16) (by decide +kernel) hz2 (fun q => ?_) (fun q => ?_)
  · have H := ht2 q
    refine hw_ald (b := 0) (e := 0) (by decide +kernel) rfl (by decide) ?_
    refine hr_gr (w := 194) (b := 12) (e := 6) 192 rfl (by decide +kernel) ?_
    refine hw_k (c := 124) (b := 1) (e := 2) (by decide +kernel) ?_
    refine hw_k (c := 6) (b := 1) (e := 2) (by decide +kernel) ?_
    refine hw_ld (b := 1) (e := 0) (by decide +kernel) rfl ?_
    refine hw_bin (w := 6 * v1) (a0 := 0) (b := 2) (e := 0) (by decide +kernel) rfl ?_
    refine hw_bin (w := 124 + (6 * v1)) (a0 := 0) (b := 0) (e := 0) (by decide +kernel) rfl ?_
    refine hw_ald (b := 0) (e := 0) (by decide +kernel) rfl (by decide) ?_
    refine hr_gr (w := 194) (b := 12) (e := 6) 192 rfl (by decide +kernel) ?_
    refine hw_k (c := 160) (b := 2) (e := 3) (by decide +kernel) ?_
    refine hw_ld (b := 1) (e := 0) (by decide +kernel) rfl ?_
    refine hw_bin (w := 160 + v1) (a0 := 0) (b := 0) (e := 0) (by decide +kernel) rfl ?_
    obtain ⟨hl3, hu3, H⟩ := H
    refine hr_al (b := 0) (a0 := 0) (e := 0) (n := 361) (w := φ 194 ((160 + v1).toNat)) 194 rfl (by decide +kernel) (by decide) hl3 hu3 rfl ?_
    refine hw_bin (w := (124 + (6 * v1)) + (φ 194 ((160 + v1).toNat))) (a0 := 0) (b := 0) (e := 0) (by decide +kernel) rfl ?_
    obtain ⟨hl4, hu4, H⟩ := H
    refine hr_al (b := 0) (a0 := 0) (e := 0) (n := 361) (w := φ 194 (((124 + (6 * v1)) + (φ 194 ((160 + v1).toNat))).toNat)) 194 rfl (by decide +kernel) (by decide) hl4 hu4 rfl ?_
    exact hw_ret (a0 := 0) (e := 0) (by decide +kernel) (Or.inl rfl) H
  · have H := hf2 q
    refine hw_k (c := (-1 : Int)) (b := 0) (e := 1) (by decide +kernel) ?_
    refine hw_goto (a0 := 0) (b := 0) (e := 39) (by decide +kernel) ?_
    exact hw_ret (a0 := 0) (e := 0) (by decide +kernel) (Or.inl rfl) H
theorem sf_204_192 {sc : List Int} {d : Nat} {φ : hf_F} {x : Nat} {Q : Option jm_V → hf_F → Nat → Prop} {v1 : Int} (hI : Inv φ) (h1a : 0 ≤ v1) (h1b : v1 ≤ 5) (hQ : ∀ (r : Int) (ψ : hf_F), Inv ψ → Fr [] φ ψ → (-1 : Int) ≤ r ∧ r ≤ 7 → Q (some (0, r)) ψ x) : hw sc d 204 0 [(0, (2, 192)), (1, (0, v1))] [] φ x Q := by
  apply sf_204_192_v
  refine ⟨by omega, by omega, ?_⟩
  have f1 := iv_ar (a := 194) (s := 118) (t := 124) (lo := 0) (u := 6) (z := 118 + v1) hI (by decide +kernel) (by omega) (by omega)
  refine ⟨by unfold hi; omega, fun q2 => ?_, fun q2 => ?_⟩
  · skip
    refine ⟨by omega, by omega, ?_⟩
    have f2 := iv_ar (a := 194) (s := 160) (t := 166) (lo := 0) (u := 5) (z := 160 + v1) hI (by decide +kernel) (by omega) (by omega)
    refine ⟨by omega, by omega, ?_⟩
    have f3 := iv_ar (a := 194) (s := 124) (t := 160) (lo := 0) (u := 7) (z := (124 + (6 * v1)) + (φ 194 ((160 + v1).toNat))) hI (by decide +kernel) (by omega) (by omega)
    exact hQ (φ 194 (((124 + (6 * v1)) + (φ 194 ((160 + v1).toNat))).toNat)) φ hI (fr_rf) ⟨by omega, by omega⟩
  · skip
    exact hQ (-1 : Int) φ hI (fr_rf) ⟨by omega, by omega⟩
theorem sf_215_192_v {sc : List Int} {d : Nat} {φ : hf_F} {x : Nat} {Q : Option jm_V → hf_F → Nat → Prop} {v1 v2 : Int}
    (H : 0 ≤ (112 + v1) ∧ (112 + v1) < 361 ∧ (hi (φ 194 ((112 + v1).toNat)) ∧ ((φ 194 ((112 + v1).toNat)) ≤ 0 → hw sc d 209 0 [(0, (2, 192)), (1, (0, v2))] [] φ x (fun r ψ3 y3 => y3 = x ∧ (∃ z3 : Int, r = some (0, z3) ∧ (hi z3 ∧ (z3 < 0 → Q (some (0, 0)) ψ3 x) ∧ (¬ z3 < 0 → Q (some (0, 2)) ψ3 x))))) ∧ (¬ (φ 194 ((112 + v1).toNat)) ≤ 0 → Q (some (0, 1)) φ x))) :
    hw sc (d + 1) 215 0 [(0, (2, 192)), (1, (0, v1)), (2, (0, v2))] [] φ x Q := by
  refine hw_ald (b := 0) (e := 0) (by decide +kernel) rfl (by decide) ?_
  refine hr_gr (w := 194) (b := 12) (e := 6) 192 rfl (by decide +kernel) ?_
  refine hw_k (c := 112) (b := 1) (e := 2) (by decide +kernel) ?_
  refine hw_ld (b := 1) (e := 0) (by decide +kernel) rfl ?_
  refine hw_bin (w := 112 + v1) (a0 := 0) (b := 0) (e := 0) (by decide +kernel) rfl ?_
  obtain ⟨hl1, hu1, H⟩ := H
  refine hr_al (b := 0) (a0 := 0) (e := 0) (n := 361) (w := φ 194 ((112 + v1).toNat)) 194 rfl (by decide +kernel) (by decide) hl1 hu1 rfl ?_
  obtain ⟨hz2, ht2, hf2⟩ := H
  refine hw_if (a0 := 0) (b := 5) (e := 16) (by decide +kernel) hz2 (fun q => ?_) (fun q => ?_)
  · have H := ht2 q
    refine hw_ald (b := 0) (e := 0) (by decide +kernel) rfl (by decide) ?_
    refine hw_ld (b := 2) (e := 0) (by decide +kernel) rfl ?_
    refine hr_call (a0 := 22) (b := 209) (e := 2) (nl := 3) (As := [(0, v2)]) (R := []) 192 rfl (by decide +kernel) rfl rfl (Nat.le_of_ble_eq_true rfl) (Nat.le_of_ble_eq_true rfl) ?_
    refine hw_mono H ?_
    rintro r ψ3 y3 ⟨hyx, z3, hr, H⟩
    subst hyx
    subst hr
    refine ⟨hne0, ?_⟩
    show hw sc (d + 1) 215 21 [(0, (2, 192)), (1, (0, v1)), (2, (0, v2))] [(0, z3)] ψ3 y3 Q
    obtain ⟨hz4, ht4, hf4⟩ := H
    refine hw_if (a0 := 0) (b := 2) (e := 28) (by decide +kernel) hz4 (fun q => ?_) (fun q => ?_)
    · have H := ht4 q
      refine hw_k (c := 0) (b := 0) (e := 1) (by decide +kernel) ?_
      exact hw_ret (a0 := 0) (e := 0) (by decide +kernel) (Or.inl rfl) H
    · have H := hf4 q
      refine hw_k (c := 2) (b := 0) (e := 1) (by decide +kernel) ?_
      refine hw_goto (a0 := 0) (b := 0) (e := 29) (by decide +kernel) ?_
      exact hw_ret (a0 := 0) (e := 0) (by decide +kernel) (Or.inl rfl) H
  · have H := hf2 q
    refine hw_k (c := 1) (b := 0) (e := 1) (by decide +kernel) ?_
    refine hw_goto (a0 := 0) (b := 0) (e := 29) (by decide +kernel) ?_
    exact hw_ret (a0 := 0) (e := 0) (by decide +kernel) (Or.inl rfl) H
theorem sf_215_192 {sc : List Int} {d : Nat} {φ : hf_F} {x : Nat} {Q : Option jm_V → hf_F → Nat → Prop} {v1 v2 : Int} (hI : Inv φ) (h1a : 0 ≤ v1) (h1b : v1 ≤ 5) (h2a : 0 ≤ v2) (h2b : v2 ≤ 7) (hQ : ∀ (r : Int) (ψ : hf_F), Inv ψ → Fr [] φ ψ → 0 ≤ r ∧ r ≤ 2 → Q (some (0, r)) ψ x) : hw sc (d + 1) 215 0 [(0, (2, 192)), (1, (0, v1)), (2, (0, v2))] [] φ x Q := by
  apply sf_215_192_v
  refine ⟨by omega, by omega, ?_⟩
  have f1 := iv_ar (a := 194) (s := 112) (t := 118) (lo := 0) (u := 8) (z := 112 + v1) hI (by decide +kernel) (by omega) (by omega)
  refine ⟨by unfold hi; omega, fun q2 => ?_, fun q2 => ?_⟩
  · skip
    refine sf_209_192 (φ := φ) hI (by omega) (by omega) (fun z3 ψ3 hI3 hF3 hp3 => ⟨rfl, z3, rfl, ?_⟩)
    have hG3 : Fr [] φ ψ3 := fr_tr (fr_rf) hF3 (by decide)
    refine ⟨by unfold hi; omega, fun q4 => ?_, fun q4 => ?_⟩
    · skip
      exact hQ 0 ψ3 hI3 hG3 ⟨by omega, by omega⟩
    · skip
      exact hQ 2 ψ3 hI3 hG3 ⟨by omega, by omega⟩
  · skip
    exact hQ 1 φ hI (fr_rf) ⟨by omega, by omega⟩
theorem sf_219_192_v {sc : List Int} {d : Nat} {φ : hf_F} {x : Nat} {Q : Option jm_V → hf_F → Nat → Prop} {v1 : Int}
    (H : 0 ≤ (118 + v1) ∧ (118 + v1) < 361 ∧ (hi (φ 194 ((118 + v1).toNat)) ∧ hi 6 ∧ (¬ (φ 194 ((118 + v1).toNat)) = 6 → Q (some (0, 0)) φ x) ∧ (¬ (¬ (φ 194 ((118 + v1).toNat)) = 6) → Q (some (0, 1)) φ x))) :
    hw sc d 219 0 [(0, (2, 192)), (1, (0, v1))] [] φ x Q := by
  refine hw_ald (b := 0) (e := 0) (by decide +kernel) rfl (by decide) ?_
  refine hr_gr (w := 194) (b := 12) (e := 6) 192 rfl (by decide +kernel) ?_
  refine hw_k (c := 118) (b := 1) (e := 2) (by decide +kernel) ?_
  refine hw_ld (b := 1) (e := 0) (by decide +kernel) rfl ?_
  refine hw_bin (w := 118 + v1) (a0 := 0) (b := 0) (e := 0) (by decide +kernel) rfl ?_
  obtain ⟨hl1, hu1, H⟩ := H
  refine hr_al (b := 0) (a0 := 0) (e := 0) (n := 361) (w := φ 194 ((118 + v1).toNat)) 194 rfl (by decide +kernel) (by decide) hl1 hu1 rfl ?_
  refine hw_k (c := 6) (b := 1) (e := 2) (by decide +kernel) ?_
  obtain ⟨hz2, hy2, ht2, hf2⟩ := H
  refine hw_if2 (a0 := 0) (b := 1) (e := 18) (by decide +kernel) hz2 hy2 (fun q => ?_) (fun q => ?_)
  · have H := ht2 q
    refine hw_k (c := 0) (b := 0) (e := 1) (by decide +kernel) ?_
    exact hw_ret (a0 := 0) (e := 0) (by decide +kernel) (Or.inl rfl) H
  · have H := hf2 q
    refine hw_k (c := 1) (b := 0) (e := 1) (by decide +kernel) ?_
    refine hw_goto (a0 := 0) (b := 0) (e := 19) (by decide +kernel) ?_
    exact hw_ret (a0 := 0) (e := 0) (by decide +kernel) (Or.inl rfl) H
theorem sf_219_192 {sc : List Int} {d : Nat} {φ : hf_F} {x : Nat} {Q : Option jm_V → hf_F → Nat → Prop} {v1 : Int} (hI : Inv φ) (h1a : 0 ≤ v1) (h1b : v1 ≤ 5) (hQ : ∀ (r : Int) (ψ : hf_F), Inv ψ → Fr [] φ ψ → 0 ≤ r ∧ r ≤ 1 → Q (some (0, r)) ψ x) : hw sc d 219 0 [(0, (2, 192)), (1, (0, v1))] [] φ x Q := by
  apply sf_219_192_v
  refine ⟨by omega, by omega, ?_⟩
  have f1 := iv_ar (a := 194) (s := 118) (t := 124) (lo := 0) (u := 6) (z := 118 + v1) hI (by decide +kernel) (by omega) (by omega)
  refine ⟨by unfold hi; omega, by unfold hi; omega, fun q2 => ?_, fun q2 => ?_⟩
  · skip
    exact hQ 0 φ hI (fr_rf) ⟨by omega, by omega⟩
  · skip
    exact hQ 1 φ hI (fr_rf) ⟨by omega, by omega⟩
theorem sf_222_192_v {sc : List Int} {d : Nat} {φ : hf_F} {x : Nat} {Q : Option jm_V → hf_F → Nat → Prop} 
    (H : hi (φ 194 102) ∧ (¬ (φ 194 102) = 0 → Q (some (0, 0)) φ x) ∧ (¬ (¬ (φ 194 102) = 0) → hi (φ 194 100) ∧ (¬ (φ 194 100) = 0 → Q (some (0, 0)) φ x) ∧ (¬ (¬ (φ 194 100) = 0) → Q (some (0, 1)) φ x))) :
    hw sc d 222 0 [(0, (2, 192))] [] φ x Q := by
  refine hw_ald (b := 0) (e := 0) (by decide +kernel) rfl (by decide) ?_
  refine hr_gr (w := 194) (b := 12) (e := 6) 192 rfl (by decide +kernel) ?_
  refine hw_k (c := 102) (b := 1) (e := 2) (by decide +kernel) ?_
  refine hr_al (b := 0) (a0 := 0) (e := 0) (n := 361) (w := φ 194 102) 194 rfl (by decide +kernel) (by decide) (by decide) (by decide) rfl ?_
  obtain ⟨hz1, ht1, hf1⟩ := H
  refine hw_if (a0 := 0) (b := 1) (e := 24) (by decide +kernel) hz1 (fun q => ?_) (fun q => ?_)
  · have H := ht1 q
    refine hw_k (c := 0) (b := 0) (e := 1) (by decide +kernel) ?_
    exact hw_ret (a0 := 0) (e := 0) (by decide +kernel) (Or.inl rfl) H
  · have H := hf1 q
    refine hw_ald (b := 0) (e := 0) (by decide +kernel) rfl (by decide) ?_
    refine hr_gr (w := 194) (b := 12) (e := 6) 192 rfl (by decide +kernel) ?_
    refine hw_k (c := 100) (b := 1) (e := 2) (by decide +kernel) ?_
    refine hr_al (b := 0) (a0 := 0) (e := 0) (n := 361) (w := φ 194 100) 194 rfl (by decide +kernel) (by decide) (by decide) (by decide) rfl ?_
    obtain ⟨hz3, ht3, hf3⟩ := H
    refine hw_if (a0 := 0) (b := 1) (e := 24) (by decide +kernel) hz3 (fun q => ?_) (fun q => ?_)
    · have H := ht3 q
      refine hw_k (c := 0) (b := 0) (e := 1) (by decide +kernel) ?_
      exact hw_ret (a0 := 0) (e := 0) (by decide +kernel) (Or.inl rfl) H
    · have H := hf3 q
      refine hw_k (c := 1) (b := 0) (e := 1) (by decide +kernel) ?_
      refine hw_goto (a0 := 0) (b := 0) (e := 25) (by decide +kernel) ?_
      exact hw_ret (a0 := 0) (e := 0) (by decide +kernel) (Or.inl rfl) H
theorem sf_222_192 {sc : List Int} {d : Nat} {φ : hf_F} {x : Nat} {Q : Option jm_V → hf_F → Nat → Prop}  (hI : Inv φ)  (hQ : ∀ (r : Int) (ψ : hf_F), Inv ψ → Fr [] φ ψ → 0 ≤ r ∧ r ≤ 1 → Q (some (0, r)) ψ x) : hw sc d 222 0 [(0, (2, 192))] [] φ x Q := by
  apply sf_222_192_v
  have f1 := iv_at (a := 194) (k := 102) (lo := (-2147483648 : Int)) (u := 2147483647) hI (by decide +kernel)
  refine ⟨by unfold hi; omega, fun q1 => ?_, fun q1 => ?_⟩
  · skip
    exact hQ 0 φ hI (fr_rf) ⟨by omega, by omega⟩
  · skip
    have f2 := iv_at (a := 194) (k := 100) (lo := 0) (u := 8) hI (by decide +kernel)
    refine ⟨by unfold hi; omega, fun q3 => ?_, fun q3 => ?_⟩
    · skip
      exact hQ 0 φ hI (fr_rf) ⟨by omega, by omega⟩
    · skip
      exact hQ 1 φ hI (fr_rf) ⟨by omega, by omega⟩
theorem sf_207_192_v {sc : List Int} {d : Nat} {φ : hf_F} {x : Nat} {Q : Option jm_V → hf_F → Nat → Prop} {v1 v2 : Int}
    (H : hw sc (d + 1) 208 0 [(0, (2, 192)), (1, (0, v1))] [] (hf_up φ 192 0 0) x (fun r ψ1 y1 => y1 = x ∧ (∃ z1 : Int, r = some (0, z1) ∧ (hi z1 ∧ (¬ z1 = 0 → hi v2 ∧ (¬ v2 = 0 → hi v2 ∧ hi 1 ∧ (¬ v2 = 1 → hi v2 ∧ hi 2 ∧ (¬ v2 = 2 → Q (some (0, (-1 : Int))) ψ1 x) ∧ (¬ (¬ v2 = 2) → hw sc (d + 1) 209 0 [(0, (2, 192)), (1, (0, v1))] [] ψ1 x (fun r ψ7 y7 => y7 = x ∧ (∃ z7 : Int, r = some (0, z7) ∧ (Q (some (0, z7)) ψ7 x))))) ∧ (¬ (¬ v2 = 1) → 0 ≤ (104 + v1) ∧ (104 + v1) < 361 ∧ (Q (some (0, ψ1 194 ((104 + v1).toNat))) ψ1 x))) ∧ (¬ (¬ v2 = 0) → 0 ≤ (11 + v1) ∧ (11 + v1) < 361 ∧ (Q (some (0, ψ1 194 ((11 + v1).toNat))) ψ1 x))) ∧ (¬ (¬ z1 = 0) → Q (some (0, (-1 : Int))) ψ1 x))))) :
    hw sc (d + 2) 207 0 [(0, (2, 192)), (1, (0, v1)), (2, (0, v2))] [] φ x Q := by
  refine hw_ald (b := 0) (e := 0) (by decide +kernel) rfl (by decide) ?_
  refine hw_k (c := 0) (b := 0) (e := 1) (by decide +kernel) ?_
  refine hr_pi (b := 12) (e := 0) 192 rfl (by decide +kernel) ?_
  refine hw_ald (b := 0) (e := 0) (by decide +kernel) rfl (by decide) ?_
  refine hw_ld (b := 1) (e := 0) (by decide +kernel) rfl ?_
  refine hr_call (a0 := 22) (b := 208) (e := 2) (nl := 2) (As := [(0, v1)]) (R := []) 192 rfl (by decide +kernel) rfl rfl (Nat.le_of_ble_eq_true rfl) (Nat.le_of_ble_eq_true rfl) ?_
  refine hw_mono H ?_
  rintro r ψ1 y1 ⟨hyx, z1, hr, H⟩
  subst hyx
  subst hr
  refine ⟨hne0, ?_⟩
  show hw sc (d + 2) 207 10 [(0, (2, 192)), (1, (0, v1)), (2, (0, v2))] [(0, z1)] ψ1 y1 Q
  obtain ⟨hz2, ht2, hf2⟩ := H
  refine hw_if (a0 := 0) (b := 1) (e := 15) (by decide +kernel) hz2 (fun q => ?_) (fun q => ?_)
  · have H := ht2 q
    refine hw_ld (b := 2) (e := 0) (by decide +kernel) rfl ?_
    obtain ⟨hz3, ht3, hf3⟩ := H
    refine hw_if (a0 := 0) (b := 1) (e := 31) (by decide +kernel) hz3 (fun q => ?_) (fun q => ?_)
    · have H := ht3 q
      refine hw_ld (b := 2) (e := 0) (by decide +kernel) rfl ?_
      refine hw_k (c := 1) (b := 0) (e := 1) (by decide +kernel) ?_
      obtain ⟨hz4, hy4, ht4, hf4⟩ := H
      refine hw_if2 (a0 := 0) (b := 1) (e := 48) (by decide +kernel) hz4 hy4 (fun q => ?_) (fun q => ?_)
      · have H := ht4 q
        refine hw_ld (b := 2) (e := 0) (by decide +kernel) rfl ?_
        refine hw_k (c := 2) (b := 0) (e := 1) (by decide +kernel) ?_
        obtain ⟨hz5, hy5, ht5, hf5⟩ := H
        refine hw_if2 (a0 := 0) (b := 1) (e := 61) (by decide +kernel) hz5 hy5 (fun q => ?_) (fun q => ?_)
        · have H := ht5 q
          refine hw_k (c := (-1 : Int)) (b := 0) (e := 1) (by decide +kernel) ?_
          exact hw_ret (a0 := 0) (e := 0) (by decide +kernel) (Or.inl rfl) H
        · have H := hf5 q
          refine hw_ald (b := 0) (e := 0) (by decide +kernel) rfl (by decide) ?_
          refine hw_ld (b := 1) (e := 0) (by decide +kernel) rfl ?_
          refine hr_call (a0 := 22) (b := 209) (e := 2) (nl := 3) (As := [(0, v1)]) (R := []) 192 rfl (by decide +kernel) rfl rfl (Nat.le_of_ble_eq_true rfl) (Nat.le_of_ble_eq_true rfl) ?_
          refine hw_mono H ?_
          rintro r ψ7 y7 ⟨hyx, z7, hr, H⟩
          subst hyx
          subst hr
          refine ⟨hne0, ?_⟩
          show hw sc (d + 2) 207 58 [(0, (2, 192)), (1, (0, v1)), (2, (0, v2))] [(0, z7)] ψ7 y7 Q
          refine hw_goto (a0 := 0) (b := 0) (e := 62) (by decide +kernel) ?_
          exact hw_ret (a0 := 0) (e := 0) (by decide +kernel) (Or.inl rfl) H
      · have H := hf4 q
        refine hw_ald (b := 0) (e := 0) (by decide +kernel) rfl (by decide) ?_
        refine hr_gr (w := 194) (b := 12) (e := 6) 192 rfl (by decide +kernel) ?_
        refine hw_k (c := 104) (b := 1) (e := 2) (by decide +kernel) ?_
        refine hw_ld (b := 1) (e := 0) (by decide +kernel) rfl ?_
        refine hw_bin (w := 104 + v1) (a0 := 0) (b := 0) (e := 0) (by decide +kernel) rfl ?_
        obtain ⟨hl9, hu9, H⟩ := H
        refine hr_al (b := 0) (a0 := 0) (e := 0) (n := 361) (w := ψ1 194 ((104 + v1).toNat)) 194 rfl (by decide +kernel) (by decide) hl9 hu9 rfl ?_
        refine hw_goto (a0 := 0) (b := 0) (e := 62) (by decide +kernel) ?_
        exact hw_ret (a0 := 0) (e := 0) (by decide +kernel) (Or.inl rfl) H
    · have H := hf3 q
      refine hw_ald (b := 0) (e := 0) (by decide +kernel) rfl (by decide) ?_
      refine hr_gr (w := 194) (b := 12) (e := 6) 192 rfl (by decide +kernel) ?_
      refine hw_k (c := 11) (b := 1) (e := 2) (by decide +kernel) ?_
      refine hw_ld (b := 1) (e := 0) (by decide +kernel) rfl ?_
      refine hw_bin (w := 11 + v1) (a0 := 0) (b := 0) (e := 0) (by decide +kernel) rfl ?_
      obtain ⟨hl11, hu11, H⟩ := H
      refine hr_al (b := 0) (a0 := 0) (e := 0) (n := 361) (w := ψ1 194 ((11 + v1).toNat)) 194 rfl (by decide +kernel) (by decide) hl11 hu11 rfl ?_
      refine hw_goto (a0 := 0) (b := 0) (e := 62) (by decide +kernel) ?_
      exact hw_ret (a0 := 0) (e := 0) (by decide +kernel) (Or.inl rfl) H
  · have H := hf2 q
    refine hw_k (c := (-1 : Int)) (b := 0) (e := 1) (by decide +kernel) ?_
    exact hw_ret (a0 := 0) (e := 0) (by decide +kernel) (Or.inl rfl) H
theorem sf_207_192 {sc : List Int} {d : Nat} {φ : hf_F} {x : Nat} {Q : Option jm_V → hf_F → Nat → Prop} {v1 v2 : Int} (hI : Inv φ) (h1a : (-2147483648 : Int) ≤ v1) (h1b : v1 ≤ 2147483647) (h2a : (-2147483648 : Int) ≤ v2) (h2b : v2 ≤ 2147483647) (hQ : ∀ (r : Int) (ψ : hf_F), Inv ψ → Fr [192] φ ψ → True → Q (some (0, r)) ψ x) : hw sc (d + 2) 207 0 [(0, (2, 192)), (1, (0, v1)), (2, (0, v2))] [] φ x Q := by
  apply sf_207_192_v
  have i1 : Inv (hf_up φ 192 0 0) := iv_up (lo := 0) (u := 1) hI (by decide +kernel) (by omega) (by omega)
  have r1 : Fr [192] φ (hf_up φ 192 0 0) := fr_up (fr_rf) (by decide)
  refine sf_208_192 (φ := (hf_up φ 192 0 0)) i1 (by omega) (by omega) (fun z1 ψ1 hI1 hF1 hp1 => ⟨rfl, z1, rfl, ?_⟩)
  have hG1 : Fr [192] φ ψ1 := fr_tr r1 hF1 (by decide)
  refine ⟨by unfold hi; omega, fun q2 => ?_, fun q2 => ?_⟩
  · skip
    refine ⟨by unfold hi; omega, fun q3 => ?_, fun q3 => ?_⟩
    · skip
      refine ⟨by unfold hi; omega, by unfold hi; omega, fun q4 => ?_, fun q4 => ?_⟩
      · skip
        refine ⟨by unfold hi; omega, by unfold hi; omega, fun q5 => ?_, fun q5 => ?_⟩
        · skip
          exact hQ (-1 : Int) ψ1 hI1 hG1 trivial
        · skip
          refine sf_209_192 (φ := ψ1) hI1 (by omega) (by omega) (fun z7 ψ7 hI7 hF7 hp7 => ⟨rfl, z7, rfl, ?_⟩)
          have hG7 : Fr [192] φ ψ7 := fr_tr hG1 hF7 (by decide)
          exact hQ z7 ψ7 hI7 hG7 trivial
      · skip
        refine ⟨by omega, by omega, ?_⟩
        have f2 := iv_ar (a := 194) (s := 104) (t := 112) (lo := 0) (u := 29) (z := 104 + v1) hI1 (by decide +kernel) (by omega) (by omega)
        have f3 : ψ1 194 ((104 + v1).toNat) = φ 194 ((104 + v1).toNat) := (hF1 194 (by decide) ((104 + v1).toNat)).trans (hf_up_ne (fun q => absurd q.1 (by decide)))
        have f4 := iv_ar (a := 194) (s := 104) (t := 112) (lo := 0) (u := 29) (z := 104 + v1) hI (by decide +kernel) (by omega) (by omega)
        exact hQ (ψ1 194 ((104 + v1).toNat)) ψ1 hI1 hG1 trivial
    · skip
      refine ⟨by omega, by omega, ?_⟩
      have f5 := iv_ar (a := 194) (s := 11) (t := 19) (lo := 0) (u := 2) (z := 11 + v1) hI1 (by decide +kernel) (by omega) (by omega)
      have f6 : ψ1 194 ((11 + v1).toNat) = φ 194 ((11 + v1).toNat) := (hF1 194 (by decide) ((11 + v1).toNat)).trans (hf_up_ne (fun q => absurd q.1 (by decide)))
      have f7 := iv_ar (a := 194) (s := 11) (t := 19) (lo := 0) (u := 2) (z := 11 + v1) hI (by decide +kernel) (by omega) (by omega)
      exact hQ (ψ1 194 ((11 + v1).toNat)) ψ1 hI1 hG1 trivial
  · skip
    exact hQ (-1 : Int) ψ1 hI1 hG1 trivial
theorem sf_210_192_v {sc : List Int} {d : Nat} {φ : hf_F} {x : Nat} {Q : Option jm_V → hf_F → Nat → Prop} {v1 v2 : Int}
    (H : hw sc (d + 1) 211 0 [(0, (2, 192)), (1, (0, v1))] [] (hf_up φ 192 0 0) x (fun r ψ1 y1 => y1 = x ∧ (∃ z1 : Int, r = some (0, z1) ∧ (hi z1 ∧ (¬ z1 = 0 → hi v2 ∧ (v2 = 0 → 0 ≤ (75 + v1) ∧ (75 + v1) < 361 ∧ (Q (some (0, ψ1 194 ((75 + v1).toNat))) ψ1 x)) ∧ (v2 = 1 → 0 ≤ (83 + v1) ∧ (83 + v1) < 361 ∧ (Q (some (0, ψ1 194 ((83 + v1).toNat))) ψ1 x)) ∧ (v2 = 2 → Q (some (0, hb_and (hb_shr (ψ1 194 102) v1) 1)) ψ1 x) ∧ (v2 = 3 → 0 ≤ (91 + v1) ∧ (91 + v1) < 361 ∧ (Q (some (0, ψ1 194 ((91 + v1).toNat))) ψ1 x)) ∧ (v2 = 4 → 0 ≤ (172 + v1) ∧ (172 + v1) < 361 ∧ (Q (some (0, ψ1 194 ((172 + v1).toNat))) ψ1 x)) ∧ ((v2 < 0 ∨ 5 ≤ v2) → Q (some (0, (-1 : Int))) ψ1 x)) ∧ (¬ (¬ z1 = 0) → Q (some (0, (-1 : Int))) ψ1 x))))) :
    hw sc (d + 2) 210 0 [(0, (2, 192)), (1, (0, v1)), (2, (0, v2))] [] φ x Q := by
  refine hw_ald (b := 0) (e := 0) (by decide +kernel) rfl (by decide) ?_
  refine hw_k (c := 0) (b := 0) (e := 1) (by decide +kernel) ?_
  refine hr_pi (b := 12) (e := 0) 192 rfl (by decide +kernel) ?_
  refine hw_ald (b := 0) (e := 0) (by decide +kernel) rfl (by decide) ?_
  refine hw_ld (b := 1) (e := 0) (by decide +kernel) rfl ?_
  refine hr_call (a0 := 22) (b := 211) (e := 2) (nl := 2) (As := [(0, v1)]) (R := []) 192 rfl (by decide +kernel) rfl rfl (Nat.le_of_ble_eq_true rfl) (Nat.le_of_ble_eq_true rfl) ?_
  refine hw_mono H ?_
  rintro r ψ1 y1 ⟨hyx, z1, hr, H⟩
  subst hyx
  subst hr
  refine ⟨hne0, ?_⟩
  show hw sc (d + 2) 210 10 [(0, (2, 192)), (1, (0, v1)), (2, (0, v2))] [(0, z1)] ψ1 y1 Q
  obtain ⟨hz2, ht2, hf2⟩ := H
  refine hw_if (a0 := 0) (b := 1) (e := 15) (by decide +kernel) hz2 (fun q => ?_) (fun q => ?_)
  · have H := ht2 q
    refine hw_ld (b := 2) (e := 0) (by decide +kernel) rfl ?_
    obtain ⟨hz3, H⟩ := H
    refine hr_tsw (T := [52, 62, 72, 84, 94]) (lo := 0) (nn := 5) (b := 105) (e := 10) (by decide +kernel) rfl hz3 ?_ ?_
    · intro q
      have H := H.2.2.2.2.2 q
      refine hw_k (c := (-1 : Int)) (b := 0) (e := 1) (by decide +kernel) ?_
      exact hw_ret (a0 := 0) (e := 0) (by decide +kernel) (Or.inl rfl) H
    · intro kq tq htq hzq
      match kq, htq, hzq with
      | 0, htq, hzq =>
        cases htq
        have H := H.1 (by omega)
        refine hw_ald (b := 0) (e := 0) (by decide +kernel) rfl (by decide) ?_
        refine hr_gr (w := 194) (b := 12) (e := 6) 192 rfl (by decide +kernel) ?_
        refine hw_k (c := 75) (b := 1) (e := 2) (by decide +kernel) ?_
        refine hw_ld (b := 1) (e := 0) (by decide +kernel) rfl ?_
        refine hw_bin (w := 75 + v1) (a0 := 0) (b := 0) (e := 0) (by decide +kernel) rfl ?_
        obtain ⟨hl4, hu4, H⟩ := H
        refine hr_al (b := 0) (a0 := 0) (e := 0) (n := 361) (w := ψ1 194 ((75 + v1).toNat)) 194 rfl (by decide +kernel) (by decide) hl4 hu4 rfl ?_
        exact hw_ret (a0 := 0) (e := 0) (by decide +kernel) (Or.inl rfl) H
      | 1, htq, hzq =>
        cases htq
        have H := H.2.1 (by omega)
        refine hw_ald (b := 0) (e := 0) (by decide +kernel) rfl (by decide) ?_
        refine hr_gr (w := 194) (b := 12) (e := 6) 192 rfl (by decide +kernel) ?_
        refine hw_k (c := 83) (b := 1) (e := 2) (by decide +kernel) ?_
        refine hw_ld (b := 1) (e := 0) (by decide +kernel) rfl ?_
        refine hw_bin (w := 83 + v1) (a0 := 0) (b := 0) (e := 0) (by decide +kernel) rfl ?_
        obtain ⟨hl6, hu6, H⟩ := H
        refine hr_al (b := 0) (a0 := 0) (e := 0) (n := 361) (w := ψ1 194 ((83 + v1).toNat)) 194 rfl (by decide +kernel) (by decide) hl6 hu6 rfl ?_
        exact hw_ret (a0 := 0) (e := 0) (by decide +kernel) (Or.inl rfl) H
      | 2, htq, hzq =>
        cases htq
        have H := H.2.2.1 (by omega)
        refine hw_ald (b := 0) (e := 0) (by decide +kernel) rfl (by decide) ?_
        refine hr_gr (w := 194) (b := 12) (e := 6) 192 rfl (by decide +kernel) ?_
        refine hw_k (c := 102) (b := 1) (e := 2) (by decide +kernel) ?_
        refine hr_al (b := 0) (a0 := 0) (e := 0) (n := 361) (w := ψ1 194 102) 194 rfl (by decide +kernel) (by decide) (by decide) (by decide) rfl ?_
        refine hw_ld (b := 1) (e := 0) (by decide +kernel) rfl ?_
        refine hw_bin (w := hb_shr (ψ1 194 102) v1) (a0 := 0) (b := 7) (e := 0) (by decide +kernel) rfl ?_
        refine hw_k (c := 1) (b := 0) (e := 1) (by decide +kernel) ?_
        refine hw_bin (w := hb_and (hb_shr (ψ1 194 102) v1) 1) (a0 := 0) (b := 3) (e := 0) (by decide +kernel) rfl ?_
        exact hw_ret (a0 := 0) (e := 0) (by decide +kernel) (Or.inl rfl) H
      | 3, htq, hzq =>
        cases htq
        have H := H.2.2.2.1 (by omega)
        refine hw_ald (b := 0) (e := 0) (by decide +kernel) rfl (by decide) ?_
        refine hr_gr (w := 194) (b := 12) (e := 6) 192 rfl (by decide +kernel) ?_
        refine hw_k (c := 91) (b := 1) (e := 2) (by decide +kernel) ?_
        refine hw_ld (b := 1) (e := 0) (by decide +kernel) rfl ?_
        refine hw_bin (w := 91 + v1) (a0 := 0) (b := 0) (e := 0) (by decide +kernel) rfl ?_
        obtain ⟨hl9, hu9, H⟩ := H
        refine hr_al (b := 0) (a0 := 0) (e := 0) (n := 361) (w := ψ1 194 ((91 + v1).toNat)) 194 rfl (by decide +kernel) (by decide) hl9 hu9 rfl ?_
        exact hw_ret (a0 := 0) (e := 0) (by decide +kernel) (Or.inl rfl) H
      | 4, htq, hzq =>
        cases htq
        have H := H.2.2.2.2.1 (by omega)
        refine hw_ald (b := 0) (e := 0) (by decide +kernel) rfl (by decide) ?_
        refine hr_gr (w := 194) (b := 12) (e := 6) 192 rfl (by decide +kernel) ?_
        refine hw_k (c := 172) (b := 2) (e := 3) (by decide +kernel) ?_
        refine hw_ld (b := 1) (e := 0) (by decide +kernel) rfl ?_
        refine hw_bin (w := 172 + v1) (a0 := 0) (b := 0) (e := 0) (by decide +kernel) rfl ?_
        obtain ⟨hl11, hu11, H⟩ := H
        refine hr_al (b := 0) (a0 := 0) (e := 0) (n := 361) (w := ψ1 194 ((172 + v1).toNat)) 194 rfl (by decide +kernel) (by decide) hl11 hu11 rfl ?_
        exact hw_ret (a0 := 0) (e := 0) (by decide +kernel) (Or.inl rfl) H
      | kq + 5, htq, _ => cases htq
  · have H := hf2 q
    refine hw_k (c := (-1 : Int)) (b := 0) (e := 1) (by decide +kernel) ?_
    exact hw_ret (a0 := 0) (e := 0) (by decide +kernel) (Or.inl rfl) H
theorem sf_210_192 {sc : List Int} {d : Nat} {φ : hf_F} {x : Nat} {Q : Option jm_V → hf_F → Nat → Prop} {v1 v2 : Int} (hI : Inv φ) (h1a : (-2147483648 : Int) ≤ v1) (h1b : v1 ≤ 2147483647) (h2a : (-2147483648 : Int) ≤ v2) (h2b : v2 ≤ 2147483647) (hQ : ∀ (r : Int) (ψ : hf_F), Inv ψ → Fr [192] φ ψ → True → Q (some (0, r)) ψ x) : hw sc (d + 2) 210 0 [(0, (2, 192)), (1, (0, v1)), (2, (0, v2))] [] φ x Q := by
  apply sf_210_192_v
  have i1 : Inv (hf_up φ 192 0 0) := iv_up (lo := 0) (u := 1) hI (by decide +kernel) (by omega) (by omega)
  have r1 : Fr [192] φ (hf_up φ 192 0 0) := fr_up (fr_rf) (by decide)
  refine sf_211_192 (φ := (hf_up φ 192 0 0)) i1 (by omega) (by omega) (fun z1 ψ1 hI1 hF1 hp1 => ⟨rfl, z1, rfl, ?_⟩)
  have hG1 : Fr [192] φ ψ1 := fr_tr r1 hF1 (by decide)
  refine ⟨by unfold hi; omega, fun q2 => ?_, fun q2 => ?_⟩
  · skip
    refine ⟨by unfold hi; omega, fun q3 => ?_, fun q3 => ?_, fun q3 => ?_, fun q3 => ?_, fun q3 => ?_, fun q3 => ?_⟩
    · skip
      refine ⟨by omega, by omega, ?_⟩
      have f2 := iv_ar (a := 194) (s := 75) (t := 83) (lo := 0) (u := 7) (z := 75 + v1) hI1 (by decide +kernel) (by omega) (by omega)
      have f3 : ψ1 194 ((75 + v1).toNat) = φ 194 ((75 + v1).toNat) := (hF1 194 (by decide) ((75 + v1).toNat)).trans (hf_up_ne (fun q => absurd q.1 (by decide)))
      have f4 := iv_ar (a := 194) (s := 75) (t := 83) (lo := 0) (u := 7) (z := 75 + v1) hI (by decide +kernel) (by omega) (by omega)
      exact hQ (ψ1 194 ((75 + v1).toNat)) ψ1 hI1 hG1 trivial
    · skip
      refine ⟨by omega, by omega, ?_⟩
      have f5 := iv_ar (a := 194) (s := 83) (t := 91) (lo := 0) (u := 7) (z := 83 + v1) hI1 (by decide +kernel) (by omega) (by omega)
      have f6 : ψ1 194 ((83 + v1).toNat) = φ 194 ((83 + v1).toNat) := (hF1 194 (by decide) ((83 + v1).toNat)).trans (hf_up_ne (fun q => absurd q.1 (by decide)))
      have f7 := iv_ar (a := 194) (s := 83) (t := 91) (lo := 0) (u := 7) (z := 83 + v1) hI (by decide +kernel) (by omega) (by omega)
      exact hQ (ψ1 194 ((83 + v1).toNat)) ψ1 hI1 hG1 trivial
    · skip
      have f8 := iv_at (a := 194) (k := 102) (lo := (-2147483648 : Int)) (u := 2147483647) hI1 (by decide +kernel)
      have f9 : ψ1 194 102 = φ 194 102 := (hF1 194 (by decide) 102).trans (hf_up_ne (fun q => absurd q.1 (by decide)))
      have f10 := iv_at (a := 194) (k := 102) (lo := (-2147483648 : Int)) (u := 2147483647) hI (by decide +kernel)
      have f11 := hr_shr (ψ1 194 102) v1
      have f12 := hr_and1 (hb_shr (ψ1 194 102) v1)
      have f13 := hr_and (hb_shr (ψ1 194 102) v1) 1
      exact hQ (hb_and (hb_shr (ψ1 194 102) v1) 1) ψ1 hI1 hG1 trivial
    · skip
      refine ⟨by omega, by omega, ?_⟩
      have f14 := iv_ar (a := 194) (s := 91) (t := 99) (lo := (-2147483648 : Int)) (u := 2147483647) (z := 91 + v1) hI1 (by decide +kernel) (by omega) (by omega)
      have f15 : ψ1 194 ((91 + v1).toNat) = φ 194 ((91 + v1).toNat) := (hF1 194 (by decide) ((91 + v1).toNat)).trans (hf_up_ne (fun q => absurd q.1 (by decide)))
      have f16 := iv_ar (a := 194) (s := 91) (t := 99) (lo := (-2147483648 : Int)) (u := 2147483647) (z := 91 + v1) hI (by decide +kernel) (by omega) (by omega)
      exact hQ (ψ1 194 ((91 + v1).toNat)) ψ1 hI1 hG1 trivial
    · skip
      refine ⟨by omega, by omega, ?_⟩
      have f17 : ψ1 194 ((172 + v1).toNat) = φ 194 ((172 + v1).toNat) := (hF1 194 (by decide) ((172 + v1).toNat)).trans (hf_up_ne (fun q => absurd q.1 (by decide)))
      exact hQ (ψ1 194 ((172 + v1).toNat)) ψ1 hI1 hG1 trivial
    · skip
      exact hQ (-1 : Int) ψ1 hI1 hG1 trivial
  · skip
    exact hQ (-1 : Int) ψ1 hI1 hG1 trivial
theorem sf_206_192_v {sc : List Int} {d : Nat} {φ : hf_F} {x : Nat} {Q : Option jm_V → hf_F → Nat → Prop} {v1 v2 : Int}
    (H : hw sc (d + 1) 202 0 [(0, (2, 192)), (1, (0, v1))] [] (hf_up φ 192 0 0) x (fun r ψ1 y1 => y1 = x ∧ (∃ z1 : Int, r = some (0, z1) ∧ (hi z1 ∧ (z1 = 0 → Q (some (0, (-1 : Int))) ψ1 x) ∧ (¬ z1 = 0 → 0 ≤ (118 + v1) ∧ (118 + v1) < 361 ∧ (hw sc (d + 1) 188 0 [(0, (0, v2)), (1, (0, 0)), (2, (0, (ψ1 194 ((118 + v1).toNat)) - 1))] [] ψ1 x (fun r ψ5 y5 => y5 = x ∧ (∃ z5 : Int, r = some (0, z5) ∧ (hi z5 ∧ (z5 = 0 → Q (some (0, (-1 : Int))) ψ5 x) ∧ (¬ z5 = 0 → 0 ≤ ((124 + (6 * v1)) + v2) ∧ ((124 + (6 * v1)) + v2) < 361 ∧ (Q (some (0, ψ5 194 (((124 + (6 * v1)) + v2).toNat))) ψ5 x))))))))))) :
    hw sc (d + 2) 206 0 [(0, (2, 192)), (1, (0, v1)), (2, (0, v2))] [] φ x Q := by
  refine hw_ald (b := 0) (e := 0) (by decide +kernel) rfl (by decide) ?_
  refine hw_k (c := 0) (b := 0) (e := 1) (by decide +kernel) ?_
  refine hr_pi (b := 12) (e := 0) 192 rfl (by decide +kernel) ?_
  refine hw_ald (b := 0) (e := 0) (by decide +kernel) rfl (by decide) ?_
  refine hw_ld (b := 1) (e := 0) (by decide +kernel) rfl ?_
  refine hr_call (a0 := 22) (b := 202) (e := 2) (nl := 2) (As := [(0, v1)]) (R := []) 192 rfl (by decide +kernel) rfl rfl (Nat.le_of_ble_eq_true rfl) (Nat.le_of_ble_eq_true rfl) ?_
  refine hw_mono H ?_
  rintro r ψ1 y1 ⟨hyx, z1, hr, H⟩
  subst hyx
  subst hr
  refine ⟨hne0, ?_⟩
  show hw sc (d + 2) 206 10 [(0, (2, 192)), (1, (0, v1)), (2, (0, v2))] [(0, z1)] ψ1 y1 Q
  obtain ⟨hz2, ht2, hf2⟩ := H
  refine hw_if (a0 := 0) (b := 0) (e := 49) (by decide +kernel) hz2 (fun q => ?_) (fun q => ?_)
  · have H := ht2 q
    refine hw_k (c := (-1 : Int)) (b := 0) (e := 1) (by decide +kernel) ?_
    exact hw_ret (a0 := 0) (e := 0) (by decide +kernel) (Or.inl rfl) H
  · have H := hf2 q
    refine hw_ld (b := 2) (e := 0) (by decide +kernel) rfl ?_
    refine hw_k (c := 0) (b := 0) (e := 1) (by decide +kernel) ?_
    refine hw_ald (b := 0) (e := 0) (by decide +kernel) rfl (by decide) ?_
    refine hr_gr (w := 194) (b := 12) (e := 6) 192 rfl (by decide +kernel) ?_
    refine hw_k (c := 118) (b := 1) (e := 2) (by decide +kernel) ?_
    refine hw_ld (b := 1) (e := 0) (by decide +kernel) rfl ?_
    refine hw_bin (w := 118 + v1) (a0 := 0) (b := 0) (e := 0) (by decide +kernel) rfl ?_
    obtain ⟨hl4, hu4, H⟩ := H
    refine hr_al (b := 0) (a0 := 0) (e := 0) (n := 361) (w := ψ1 194 ((118 + v1).toNat)) 194 rfl (by decide +kernel) (by decide) hl4 hu4 rfl ?_
    refine hw_k (c := 1) (b := 0) (e := 1) (by decide +kernel) ?_
    refine hw_bin (w := (ψ1 194 ((118 + v1).toNat)) - 1) (a0 := 0) (b := 1) (e := 0) (by decide +kernel) rfl ?_
    refine hr_calls (b := 188) (e := 3) (nl := 3) (As := [(0, v2), (0, 0), (0, (ψ1 194 ((118 + v1).toNat)) - 1)]) (R := []) (by decide +kernel) rfl rfl (Nat.le_of_ble_eq_true rfl) (Nat.le_of_ble_eq_true rfl) ?_
    refine hw_mono H ?_
    rintro r ψ5 y5 ⟨hyx, z5, hr, H⟩
    subst hyx
    subst hr
    refine ⟨hne0, ?_⟩
    show hw sc (d + 2) 206 29 [(0, (2, 192)), (1, (0, v1)), (2, (0, v2))] [(0, z5)] ψ5 y5 Q
    obtain ⟨hz6, ht6, hf6⟩ := H
    refine hw_if (a0 := 0) (b := 0) (e := 49) (by decide +kernel) hz6 (fun q => ?_) (fun q => ?_)
    · have H := ht6 q
      refine hw_k (c := (-1 : Int)) (b := 0) (e := 1) (by decide +kernel) ?_
      exact hw_ret (a0 := 0) (e := 0) (by decide +kernel) (Or.inl rfl) H
    · have H := hf6 q
      refine hw_ald (b := 0) (e := 0) (by decide +kernel) rfl (by decide) ?_
      refine hr_gr (w := 194) (b := 12) (e := 6) 192 rfl (by decide +kernel) ?_
      refine hw_k (c := 124) (b := 1) (e := 2) (by decide +kernel) ?_
      refine hw_k (c := 6) (b := 1) (e := 2) (by decide +kernel) ?_
      refine hw_ld (b := 1) (e := 0) (by decide +kernel) rfl ?_
      refine hw_bin (w := 6 * v1) (a0 := 0) (b := 2) (e := 0) (by decide +kernel) rfl ?_
      refine hw_bin (w := 124 + (6 * v1)) (a0 := 0) (b := 0) (e := 0) (by decide +kernel) rfl ?_
      refine hw_ld (b := 2) (e := 0) (by decide +kernel) rfl ?_
      refine hw_bin (w := (124 + (6 * v1)) + v2) (a0 := 0) (b := 0) (e := 0) (by decide +kernel) rfl ?_
      obtain ⟨hl8, hu8, H⟩ := H
      refine hr_al (b := 0) (a0 := 0) (e := 0) (n := 361) (w := ψ5 194 (((124 + (6 * v1)) + v2).toNat)) 194 rfl (by decide +kernel) (by decide) hl8 hu8 rfl ?_
      refine hw_goto (a0 := 0) (b := 0) (e := 50) (by decide +kernel) ?_
      exact hw_ret (a0 := 0) (e := 0) (by decide +kernel) (Or.inl rfl) H
theorem sf_206_192 {sc : List Int} {d : Nat} {φ : hf_F} {x : Nat} {Q : Option jm_V → hf_F → Nat → Prop} {v1 v2 : Int} (hI : Inv φ) (h1a : (-2147483648 : Int) ≤ v1) (h1b : v1 ≤ 2147483647) (h2a : (-2147483648 : Int) ≤ v2) (h2b : v2 ≤ 2147483647) (hQ : ∀ (r : Int) (ψ : hf_F), Inv ψ → Fr [192] φ ψ → True → Q (some (0, r)) ψ x) : hw sc (d + 2) 206 0 [(0, (2, 192)), (1, (0, v1)), (2, (0, v2))] [] φ x Q := by
  apply sf_206_192_v
  have i1 : Inv (hf_up φ 192 0 0) := iv_up (lo := 0) (u := 1) hI (by decide +kernel) (by omega) (by omega)
  have r1 : Fr [192] φ (hf_up φ 192 0 0) := fr_up (fr_rf) (by decide)
  refine sf_202_192 (φ := (hf_up φ 192 0 0)) i1 (by omega) (by omega) (fun z1 ψ1 hI1 hF1 hp1 => ⟨rfl, z1, rfl, ?_⟩)
  have hG1 : Fr [192] φ ψ1 := fr_tr r1 hF1 (by decide)
  refine ⟨by unfold hi; omega, fun q2 => ?_, fun q2 => ?_⟩
  · skip
    exact hQ (-1 : Int) ψ1 hI1 hG1 trivial
  · skip
    refine ⟨by omega, by omega, ?_⟩
    have f2 := iv_ar (a := 194) (s := 118) (t := 124) (lo := 0) (u := 6) (z := 118 + v1) hI1 (by decide +kernel) (by omega) (by omega)
    have f3 : ψ1 194 ((118 + v1).toNat) = φ 194 ((118 + v1).toNat) := (hF1 194 (by decide) ((118 + v1).toNat)).trans (hf_up_ne (fun q => absurd q.1 (by decide)))
    have f4 := iv_ar (a := 194) (s := 118) (t := 124) (lo := 0) (u := 6) (z := 118 + v1) hI (by decide +kernel) (by omega) (by omega)
    refine sf_188 (φ := ψ1) hI1 (by omega) (by omega) (by omega) (by omega) (by omega) (by omega) (fun z5 ψ5 hI5 hF5 hp5 => ⟨rfl, z5, rfl, ?_⟩)
    have hG5 : Fr [192] φ ψ5 := fr_tr hG1 hF5 (by decide)
    refine ⟨by unfold hi; omega, fun q6 => ?_, fun q6 => ?_⟩
    · skip
      exact hQ (-1 : Int) ψ5 hI5 hG5 trivial
    · skip
      refine ⟨by omega, by omega, ?_⟩
      have f5 := iv_ar (a := 194) (s := 124) (t := 160) (lo := 0) (u := 7) (z := (124 + (6 * v1)) + v2) hI5 (by decide +kernel) (by omega) (by omega)
      have f6 : ψ5 194 (((124 + (6 * v1)) + v2).toNat) = ψ1 194 (((124 + (6 * v1)) + v2).toNat) := (hF5 194 (by decide) (((124 + (6 * v1)) + v2).toNat))
      have f7 := iv_ar (a := 194) (s := 124) (t := 160) (lo := 0) (u := 7) (z := (124 + (6 * v1)) + v2) hI1 (by decide +kernel) (by omega) (by omega)
      have f8 : ψ1 194 (((124 + (6 * v1)) + v2).toNat) = φ 194 (((124 + (6 * v1)) + v2).toNat) := (hF1 194 (by decide) (((124 + (6 * v1)) + v2).toNat)).trans (hf_up_ne (fun q => absurd q.1 (by decide)))
      have f9 := iv_ar (a := 194) (s := 124) (t := 160) (lo := 0) (u := 7) (z := (124 + (6 * v1)) + v2) hI (by decide +kernel) (by omega) (by omega)
      exact hQ (ψ5 194 (((124 + (6 * v1)) + v2).toNat)) ψ5 hI5 hG5 trivial
theorem sf_240_192_v {sc : List Int} {d : Nat} {φ : hf_F} {x : Nat} {Q : Option jm_V → hf_F → Nat → Prop} {v1 : Int}
    (H : 0 ≤ (75 + v1) ∧ (75 + v1) < 361 ∧ (0 ≤ (83 + v1) ∧ (83 + v1) < 361 ∧ (Q (some (0, hb_or (hb_shl 1 (φ 194 ((75 + v1).toNat))) (hb_shl 1 (φ 194 ((83 + v1).toNat))))) φ x))) :
    hw sc d 240 0 [(0, (2, 192)), (1, (0, v1))] [] φ x Q := by
  refine hw_k (c := 1) (b := 0) (e := 1) (by decide +kernel) ?_
  refine hw_ald (b := 0) (e := 0) (by decide +kernel) rfl (by decide) ?_
  refine hr_gr (w := 194) (b := 12) (e := 6) 192 rfl (by decide +kernel) ?_
  refine hw_k (c := 75) (b := 1) (e := 2) (by decide +kernel) ?_
  refine hw_ld (b := 1) (e := 0) (by decide +kernel) rfl ?_
  refine hw_bin (w := 75 + v1) (a0 := 0) (b := 0) (e := 0) (by decide +kernel) rfl ?_
  obtain ⟨hl1, hu1, H⟩ := H
  refine hr_al (b := 0) (a0 := 0) (e := 0) (n := 361) (w := φ 194 ((75 + v1).toNat)) 194 rfl (by decide +kernel) (by decide) hl1 hu1 rfl ?_
  refine hw_bin (w := hb_shl 1 (φ 194 ((75 + v1).toNat))) (a0 := 0) (b := 6) (e := 0) (by decide +kernel) rfl ?_
  refine hw_k (c := 1) (b := 0) (e := 1) (by decide +kernel) ?_
  refine hw_ald (b := 0) (e := 0) (by decide +kernel) rfl (by decide) ?_
  refine hr_gr (w := 194) (b := 12) (e := 6) 192 rfl (by decide +kernel) ?_
  refine hw_k (c := 83) (b := 1) (e := 2) (by decide +kernel) ?_
  refine hw_ld (b := 1) (e := 0) (by decide +kernel) rfl ?_
  refine hw_bin (w := 83 + v1) (a0 := 0) (b := 0) (e := 0) (by decide +kernel) rfl ?_
  obtain ⟨hl2, hu2, H⟩ := H
  refine hr_al (b := 0) (a0 := 0) (e := 0) (n := 361) (w := φ 194 ((83 + v1).toNat)) 194 rfl (by decide +kernel) (by decide) hl2 hu2 rfl ?_
  refine hw_bin (w := hb_shl 1 (φ 194 ((83 + v1).toNat))) (a0 := 0) (b := 6) (e := 0) (by decide +kernel) rfl ?_
  refine hw_bin (w := hb_or (hb_shl 1 (φ 194 ((75 + v1).toNat))) (hb_shl 1 (φ 194 ((83 + v1).toNat)))) (a0 := 0) (b := 4) (e := 0) (by decide +kernel) rfl ?_
  exact hw_ret (a0 := 0) (e := 0) (by decide +kernel) (Or.inl rfl) H
theorem sf_240_192 {sc : List Int} {d : Nat} {φ : hf_F} {x : Nat} {Q : Option jm_V → hf_F → Nat → Prop} {v1 : Int} (hI : Inv φ) (h1a : 0 ≤ v1) (h1b : v1 ≤ 7) (hQ : ∀ (r : Int) (ψ : hf_F), Inv ψ → Fr [] φ ψ → True → Q (some (0, r)) ψ x) : hw sc d 240 0 [(0, (2, 192)), (1, (0, v1))] [] φ x Q := by
  apply sf_240_192_v
  refine ⟨by omega, by omega, ?_⟩
  have f1 := iv_ar (a := 194) (s := 75) (t := 83) (lo := 0) (u := 7) (z := 75 + v1) hI (by decide +kernel) (by omega) (by omega)
  have f2 := hr_shl 1 (φ 194 ((75 + v1).toNat))
  refine ⟨by omega, by omega, ?_⟩
  have f3 := iv_ar (a := 194) (s := 83) (t := 91) (lo := 0) (u := 7) (z := 83 + v1) hI (by decide +kernel) (by omega) (by omega)
  have f4 := hr_shl 1 (φ 194 ((83 + v1).toNat))
  have f5 := hr_or (hb_shl 1 (φ 194 ((75 + v1).toNat))) (hb_shl 1 (φ 194 ((83 + v1).toNat)))
  exact hQ (hb_or (hb_shl 1 (φ 194 ((75 + v1).toNat))) (hb_shl 1 (φ 194 ((83 + v1).toNat)))) φ hI (fr_rf) trivial
theorem sf_239_192_v19 {sc : List Int} {d : Nat} {φ : hf_F} {x : Nat} {Q : Option jm_V → hf_F → Nat → Prop} {L : jm_L} {l1 l2 l3 : Int} (g0 : jm_get L 0 = some (2, 192)) (g1 : jm_get L 1 = some (0, l1)) (g2 : jm_get L 2 = some (0, l2)) (g3 : jm_get L 3 = some (0, l3))
    (H : hi l3 ∧ hi (φ 194 3) ∧ ((φ 194 3) ≤ l3 → Q (some (0, l2)) φ x) ∧ (¬ (φ 194 3) ≤ l3 → hw sc (d + 1) 205 0 [(0, (2, 192)), (1, (0, l3))] [] φ x (fun r ψ3 y3 => y3 = x ∧ (∃ z3 : Int, r = some (0, z3) ∧ (hw sc (d + 1) 240 0 [(0, (2, 192)), (1, (0, l1))] [] ψ3 x (fun r ψ4 y4 => y4 = x ∧ (∃ z4 : Int, r = some (0, z4) ∧ (hi (hb_and z3 z4) ∧ ((hb_and z3 z4) = 0 → hw sc (d + 2) 239 19 (jm_st1 (jm_st1 L 2 (0, hb_or l2 0)) 3 (0, l3 + 1)) [] ψ4 x Q) ∧ (¬ (hb_and z3 z4) = 0 → hw sc (d + 2) 239 19 (jm_st1 (jm_st1 L 2 (0, hb_or l2 (hb_shl 1 l3))) 3 (0, l3 + 1)) [] ψ4 x Q))))))))) :
    hw sc (d + 2) 239 19 L [] φ x Q := by
  refine hw_ld (b := 3) (e := 0) (by decide +kernel) g3 ?_
  refine hw_ald (b := 0) (e := 0) (by decide +kernel) g0 (by decide) ?_
  refine hr_gr (w := 194) (b := 12) (e := 6) 192 rfl (by decide +kernel) ?_
  refine hw_k (c := 3) (b := 0) (e := 1) (by decide +kernel) ?_
  refine hr_al (b := 0) (a0 := 0) (e := 0) (n := 361) (w := φ 194 3) 194 rfl (by decide +kernel) (by decide) (by decide) (by decide) rfl ?_
  obtain ⟨hz1, hy1, ht1, hf1⟩ := H
  refine hw_if2 (a0 := 0) (b := 3) (e := 59) (by decide +kernel) hz1 hy1 (fun q => ?_) (fun q => ?_)
  · have H := ht1 q
    refine hw_ld (b := 2) (e := 0) (by decide +kernel) g2 ?_
    exact hw_ret (a0 := 0) (e := 0) (by decide +kernel) (Or.inl rfl) H
  · have H := hf1 q
    refine hw_ld (b := 2) (e := 0) (by decide +kernel) g2 ?_
    refine hw_ald (b := 0) (e := 0) (by decide +kernel) g0 (by decide) ?_
    refine hw_ld (b := 3) (e := 0) (by decide +kernel) g3 ?_
    refine hr_call (a0 := 22) (b := 205) (e := 2) (nl := 4) (As := [(0, l3)]) (R := [(0, l2)]) 192 rfl (by decide +kernel) rfl rfl (Nat.le_of_ble_eq_true rfl) (Nat.le_of_ble_eq_true rfl) ?_
    refine hw_mono H ?_
    rintro r ψ3 y3 ⟨hyx, z3, hr, H⟩
    subst hyx
    subst hr
    refine ⟨hne0, ?_⟩
    show hw sc (d + 2) 239 35 L [(0, z3), (0, l2)] ψ3 y3 Q
    refine hw_ald (b := 0) (e := 0) (by decide +kernel) g0 (by decide) ?_
    refine hw_ld (b := 1) (e := 0) (by decide +kernel) g1 ?_
    refine hr_call (a0 := 22) (b := 240) (e := 2) (nl := 2) (As := [(0, l1)]) (R := [(0, z3), (0, l2)]) 192 rfl (by decide +kernel) rfl rfl (Nat.le_of_ble_eq_true rfl) (Nat.le_of_ble_eq_true rfl) ?_
    refine hw_mono H ?_
    rintro r ψ4 y4 ⟨hyx, z4, hr, H⟩
    subst hyx
    subst hr
    refine ⟨hne0, ?_⟩
    show hw sc (d + 2) 239 40 L [(0, z4), (0, z3), (0, l2)] ψ4 y4 Q
    refine hw_bin (w := hb_and z3 z4) (a0 := 0) (b := 3) (e := 0) (by decide +kernel) rfl ?_
    obtain ⟨hz5, ht5, hf5⟩ := H
    refine hw_if (a0 := 0) (b := 0) (e := 50) (by decide +kernel) hz5 (fun q => ?_) (fun q => ?_)
    · have H := ht5 q
      refine hw_k (c := 0) (b := 0) (e := 1) (by decide +kernel) ?_
      refine hw_bin (w := hb_or l2 0) (a0 := 0) (b := 4) (e := 0) (by decide +kernel) rfl ?_
      refine hw_st (L' := (jm_st1 L 2 (0, hb_or l2 0))) (b := 2) (e := 0) (by decide +kernel) rfl ?_
      refine hw_inc (L' := (jm_st1 (jm_st1 L 2 (0, hb_or l2 0)) 3 (0, l3 + 1))) (c := 1) (b := 3) (e := 0) (by decide +kernel) (get_st1 g3 (by decide) (fun q => absurd q.1 (by decide))) rfl ?_
      refine hw_goto (a0 := 0) (b := 0) (e := 19) (by decide +kernel) ?_
      exact H
    · have H := hf5 q
      refine hw_k (c := 1) (b := 0) (e := 1) (by decide +kernel) ?_
      refine hw_ld (b := 3) (e := 0) (by decide +kernel) g3 ?_
      refine hw_bin (w := hb_shl 1 l3) (a0 := 0) (b := 6) (e := 0) (by decide +kernel) rfl ?_
      refine hw_goto (a0 := 0) (b := 0) (e := 51) (by decide +kernel) ?_
      refine hw_bin (w := hb_or l2 (hb_shl 1 l3)) (a0 := 0) (b := 4) (e := 0) (by decide +kernel) rfl ?_
      refine hw_st (L' := (jm_st1 L 2 (0, hb_or l2 (hb_shl 1 l3)))) (b := 2) (e := 0) (by decide +kernel) rfl ?_
      refine hw_inc (L' := (jm_st1 (jm_st1 L 2 (0, hb_or l2 (hb_shl 1 l3))) 3 (0, l3 + 1))) (c := 1) (b := 3) (e := 0) (by decide +kernel) (get_st1 g3 (by decide) (fun q => absurd q.1 (by decide))) rfl ?_
      refine hw_goto (a0 := 0) (b := 0) (e := 19) (by decide +kernel) ?_
      exact H
theorem sf_239_192_l19 {sc : List Int} {d x : Nat} {Q : Option jm_V → hf_F → Nat → Prop} : ∀ (n : Nat) (φ : hf_F) (L : jm_L) (l1 l2 l3 : Int), jm_get L 0 = some (2, 192) → jm_get L 1 = some (0, l1) → jm_get L 2 = some (0, l2) → jm_get L 3 = some (0, l3) → Inv φ → 6 - l3 < (n : Int) → 0 ≤ l1 → l1 ≤ 7 → (-2147483648 : Int) ≤ l2 → l2 ≤ 2147483647 → 0 ≤ l3 → l3 ≤ 6 → (∀ (r : Int) (ψ : hf_F), Inv ψ → Fr [192] φ ψ → True → Q (some (0, r)) ψ x) → hw sc (d + 2) 239 19 L [] φ x Q := by
  intro n
  induction n with
  | zero =>
    intro φ L l1 l2 l3 g0 g1 g2 g3 hI hM b1a b1b b2a b2b b3a b3b hQ
    exfalso
    omega
  | succ n ih =>
    intro φ L l1 l2 l3 g0 g1 g2 g3 hI hM b1a b1b b2a b2b b3a b3b hQ
    refine sf_239_192_v19 g0 g1 g2 g3 ?_
    have f1 := iv_at (a := 194) (k := 3) (lo := 0) (u := 6) hI (by decide +kernel)
    refine ⟨by unfold hi; omega, by unfold hi; omega, fun q1 => ?_, fun q1 => ?_⟩
    · skip
      exact hQ l2 φ hI (fr_rf) trivial
    · skip
      refine sf_205_192 (φ := φ) hI (by omega) (by omega) (fun z3 ψ3 hI3 hF3 hp3 => ⟨rfl, z3, rfl, ?_⟩)
      have hG3 : Fr [192] φ ψ3 := fr_tr (fr_rf) hF3 (by decide)
      refine sf_240_192 (φ := ψ3) hI3 (by omega) (by omega) (fun z4 ψ4 hI4 hF4 hp4 => ⟨rfl, z4, rfl, ?_⟩)
      have hG4 : Fr [192] φ ψ4 := fr_tr hG3 hF4 (by decide)
      have f2 := hr_and z3 z4
      refine ⟨by unfold hi; omega, fun q5 => ?_, fun q5 => ?_⟩
      · skip
        have f3 := hr_or l2 0
        exact ih ψ4 (jm_st1 (jm_st1 L 2 (0, hb_or l2 0)) 3 (0, l3 + 1)) l1 (hb_or l2 0) (l3 + 1) (get_st1 (get_st1 g0 (by decide) (fun q => absurd q.1 (by decide))) (by decide) (fun q => absurd q.1 (by decide))) (get_st1 (get_st1 g1 (by decide) (fun q => tg0 q.2)) (by decide) (fun q => absurd q.1 (by decide))) (get_st1 get_st1e (by decide) (fun q => tg0 q.2)) get_st1e hI4 (by omega) (by omega) (by omega) (by omega) (by omega) (by omega) (by omega) (fun rr χ hIχ hFχ hpχ => hQ rr χ hIχ (fr_tr hG4 hFχ (by decide)) hpχ)
      · skip
        have f4 := hr_shl 1 l3
        have f5 := hr_or l2 (hb_shl 1 l3)
        exact ih ψ4 (jm_st1 (jm_st1 L 2 (0, hb_or l2 (hb_shl 1 l3))) 3 (0, l3 + 1)) l1 (hb_or l2 (hb_shl 1 l3)) (l3 + 1) (get_st1 (get_st1 g0 (by decide) (fun q => absurd q.1 (by decide))) (by decide) (fun q => absurd q.1 (by decide))) (get_st1 (get_st1 g1 (by decide) (fun q => tg0 q.2)) (by decide) (fun q => absurd q.1 (by decide))) (get_st1 get_st1e (by decide) (fun q => tg0 q.2)) get_st1e hI4 (by omega) (by omega) (by omega) (by omega) (by omega) (by omega) (by omega) (fun rr χ hIχ hFχ hpχ => hQ rr χ hIχ (fr_tr hG4 hFχ (by decide)) hpχ)
theorem sf_239_192_v {sc : List Int} {d : Nat} {φ : hf_F} {x : Nat} {Q : Option jm_V → hf_F → Nat → Prop} {v1 : Int}
    (H : hw sc (d + 1) 211 0 [(0, (2, 192)), (1, (0, v1))] [] (hf_up φ 192 0 0) x (fun r ψ1 y1 => y1 = x ∧ (∃ z1 : Int, r = some (0, z1) ∧ (hi z1 ∧ (¬ z1 = 0 → hw sc (d + 2) 239 19 (jm_st1 (jm_st1 [(0, (2, 192)), (1, (0, v1))] 2 (0, 0)) 3 (0, 0)) [] ψ1 x Q) ∧ (¬ (¬ z1 = 0) → Q (some (0, (-1 : Int))) ψ1 x))))) :
    hw sc (d + 2) 239 0 [(0, (2, 192)), (1, (0, v1))] [] φ x Q := by
  refine hw_ald (b := 0) (e := 0) (by decide +kernel) rfl (by decide) ?_
  refine hw_k (c := 0) (b := 0) (e := 1) (by decide +kernel) ?_
  refine hr_pi (b := 12) (e := 0) 192 rfl (by decide +kernel) ?_
  refine hw_ald (b := 0) (e := 0) (by decide +kernel) rfl (by decide) ?_
  refine hw_ld (b := 1) (e := 0) (by decide +kernel) rfl ?_
  refine hr_call (a0 := 22) (b := 211) (e := 2) (nl := 2) (As := [(0, v1)]) (R := []) 192 rfl (by decide +kernel) rfl rfl (Nat.le_of_ble_eq_true rfl) (Nat.le_of_ble_eq_true rfl) ?_
  refine hw_mono H ?_
  rintro r ψ1 y1 ⟨hyx, z1, hr, H⟩
  subst hyx
  subst hr
  refine ⟨hne0, ?_⟩
  show hw sc (d + 2) 239 10 [(0, (2, 192)), (1, (0, v1))] [(0, z1)] ψ1 y1 Q
  obtain ⟨hz2, ht2, hf2⟩ := H
  refine hw_if (a0 := 0) (b := 1) (e := 15) (by decide +kernel) hz2 (fun q => ?_) (fun q => ?_)
  · have H := ht2 q
    refine hw_k (c := 0) (b := 0) (e := 1) (by decide +kernel) ?_
    refine hw_st (L' := (jm_st1 [(0, (2, 192)), (1, (0, v1))] 2 (0, 0))) (b := 2) (e := 0) (by decide +kernel) rfl ?_
    refine hw_k (c := 0) (b := 0) (e := 1) (by decide +kernel) ?_
    refine hw_st (L' := (jm_st1 (jm_st1 [(0, (2, 192)), (1, (0, v1))] 2 (0, 0)) 3 (0, 0))) (b := 3) (e := 0) (by decide +kernel) rfl ?_
    exact H
  · have H := hf2 q
    refine hw_k (c := (-1 : Int)) (b := 0) (e := 1) (by decide +kernel) ?_
    exact hw_ret (a0 := 0) (e := 0) (by decide +kernel) (Or.inl rfl) H
theorem sf_239_192 {sc : List Int} {d : Nat} {φ : hf_F} {x : Nat} {Q : Option jm_V → hf_F → Nat → Prop} {v1 : Int} (hI : Inv φ) (h1a : (-2147483648 : Int) ≤ v1) (h1b : v1 ≤ 2147483647) (hQ : ∀ (r : Int) (ψ : hf_F), Inv ψ → Fr [192] φ ψ → True → Q (some (0, r)) ψ x) : hw sc (d + 2) 239 0 [(0, (2, 192)), (1, (0, v1))] [] φ x Q := by
  apply sf_239_192_v
  have i1 : Inv (hf_up φ 192 0 0) := iv_up (lo := 0) (u := 1) hI (by decide +kernel) (by omega) (by omega)
  have r1 : Fr [192] φ (hf_up φ 192 0 0) := fr_up (fr_rf) (by decide)
  refine sf_211_192 (φ := (hf_up φ 192 0 0)) i1 (by omega) (by omega) (fun z1 ψ1 hI1 hF1 hp1 => ⟨rfl, z1, rfl, ?_⟩)
  have hG1 : Fr [192] φ ψ1 := fr_tr r1 hF1 (by decide)
  refine ⟨by unfold hi; omega, fun q2 => ?_, fun q2 => ?_⟩
  · skip
    exact sf_239_192_l19 ((6 - 0 : Int).toNat + 1) ψ1 (jm_st1 (jm_st1 [(0, (2, 192)), (1, (0, v1))] 2 (0, 0)) 3 (0, 0)) v1 0 0 (get_st1 (get_st1 rfl (by decide) (fun q => absurd q.1 (by decide))) (by decide) (fun q => absurd q.1 (by decide))) (get_st1 (get_st1 rfl (by decide) (fun q => tg0 q.2)) (by decide) (fun q => absurd q.1 (by decide))) (get_st1 get_st1e (by decide) (fun q => tg0 q.2)) get_st1e hI1 (by omega) (by omega) (by omega) (by omega) (by omega) (by omega) (by omega) (fun rr χ hIχ hFχ hpχ => hQ rr χ hIχ (fr_tr hG1 hFχ (by decide)) hpχ)
  · skip
    exact hQ (-1 : Int) ψ1 hI1 hG1 trivial
theorem sf_197_v {sc : List Int} {d : Nat} {φ : hf_F} {x : Nat} {Q : Option jm_V → hf_F → Nat → Prop} {v0 v1 : Int}
    (H : hi (hb_and (hb_shr v0 v1) 1) ∧ hi 1 ∧ (¬ (hb_and (hb_shr v0 v1) 1) = 1 → Q (some (0, 0)) φ x) ∧ (¬ (¬ (hb_and (hb_shr v0 v1) 1) = 1) → Q (some (0, 1)) φ x)) :
    hw sc d 197 0 [(0, (0, v0)), (1, (0, v1))] [] φ x Q := by
  refine hw_ld (b := 0) (e := 0) (by decide +kernel) rfl ?_
  refine hw_ld (b := 1) (e := 0) (by decide +kernel) rfl ?_
  refine hw_bin (w := hb_shr v0 v1) (a0 := 0) (b := 7) (e := 0) (by decide +kernel) rfl ?_
  refine hw_k (c := 1) (b := 0) (e := 1) (by decide +kernel) ?_
  refine hw_bin (w := hb_and (hb_shr v0 v1) 1) (a0 := 0) (b := 3) (e := 0) (by decide +kernel) rfl ?_
  refine hw_k (c := 1) (b := 0) (e := 1) (by decide +kernel) ?_
  obtain ⟨hz1, hy1, ht1, hf1⟩ := H
  refine hw_if2 (a0 := 0) (b := 1) (e := 13) (by decide +kernel) hz1 hy1 (fun q => ?_) (fun q => ?_)
  · have H := ht1 q
    refine hw_k (c := 0) (b := 0) (e := 1) (by decide +kernel) ?_
    exact hw_ret (a0 := 0) (e := 1) (by decide +kernel) (Or.inr ⟨rfl, by decide⟩) H
  · have H := hf1 q
    refine hw_k (c := 1) (b := 0) (e := 1) (by decide +kernel) ?_
    refine hw_goto (a0 := 0) (b := 0) (e := 14) (by decide +kernel) ?_
    exact hw_ret (a0 := 0) (e := 1) (by decide +kernel) (Or.inr ⟨rfl, by decide⟩) H
theorem sf_197 {sc : List Int} {d : Nat} {φ : hf_F} {x : Nat} {Q : Option jm_V → hf_F → Nat → Prop} {v0 v1 : Int} (hI : Inv φ) (h0a : (-2147483648 : Int) ≤ v0) (h0b : v0 ≤ 2147483647) (h1a : 0 ≤ v1) (h1b : v1 ≤ 31) (hQ : ∀ (r : Int) (ψ : hf_F), Inv ψ → Fr [] φ ψ → 0 ≤ r ∧ r ≤ 1 → Q (some (0, r)) ψ x) : hw sc d 197 0 [(0, (0, v0)), (1, (0, v1))] [] φ x Q := by
  apply sf_197_v
  have f1 := hr_shr v0 v1
  have f2 := hr_and1 (hb_shr v0 v1)
  have f3 := hr_and (hb_shr v0 v1) 1
  refine ⟨by unfold hi; omega, by unfold hi; omega, fun q1 => ?_, fun q1 => ?_⟩
  · skip
    exact hQ 0 φ hI (fr_rf) ⟨by omega, by omega⟩
  · skip
    exact hQ 1 φ hI (fr_rf) ⟨by omega, by omega⟩
theorem sf_242_192_v4 {sc : List Int} {d : Nat} {φ : hf_F} {x : Nat} {Q : Option jm_V → hf_F → Nat → Prop} {L : jm_L} {l1 l2 l3 : Int} (g0 : jm_get L 0 = some (2, 192)) (g1 : jm_get L 1 = some (0, l1)) (g2 : jm_get L 2 = some (0, l2)) (g3 : jm_get L 3 = some (0, l3))
    (H : hi l3 ∧ hi (φ 194 3) ∧ ((φ 194 3) ≤ l3 → Q (some (0, l2)) φ x) ∧ (¬ (φ 194 3) ≤ l3 → hw sc d 197 0 [(0, (0, l1)), (1, (0, l3))] [] φ x (fun r ψ3 y3 => y3 = x ∧ (∃ z3 : Int, r = some (0, z3) ∧ (hi z3 ∧ (z3 = 0 → hw sc (d + 1) 242 4 (jm_st1 (jm_st1 L 2 (0, hb_or l2 0)) 3 (0, l3 + 1)) [] ψ3 x Q) ∧ (¬ z3 = 0 → hw sc d 205 0 [(0, (2, 192)), (1, (0, l3))] [] ψ3 x (fun r ψ5 y5 => y5 = x ∧ (∃ z5 : Int, r = some (0, z5) ∧ (hw sc (d + 1) 242 4 (jm_st1 (jm_st1 L 2 (0, hb_or l2 z5)) 3 (0, l3 + 1)) [] ψ5 x Q))))))))) :
    hw sc (d + 1) 242 4 L [] φ x Q := by
  refine hw_ld (b := 3) (e := 0) (by decide +kernel) g3 ?_
  refine hw_ald (b := 0) (e := 0) (by decide +kernel) g0 (by decide) ?_
  refine hr_gr (w := 194) (b := 12) (e := 6) 192 rfl (by decide +kernel) ?_
  refine hw_k (c := 3) (b := 0) (e := 1) (by decide +kernel) ?_
  refine hr_al (b := 0) (a0 := 0) (e := 0) (n := 361) (w := φ 194 3) 194 rfl (by decide +kernel) (by decide) (by decide) (by decide) rfl ?_
  obtain ⟨hz1, hy1, ht1, hf1⟩ := H
  refine hw_if2 (a0 := 0) (b := 3) (e := 40) (by decide +kernel) hz1 hy1 (fun q => ?_) (fun q => ?_)
  · have H := ht1 q
    refine hw_ld (b := 2) (e := 0) (by decide +kernel) g2 ?_
    exact hw_ret (a0 := 0) (e := 0) (by decide +kernel) (Or.inl rfl) H
  · have H := hf1 q
    refine hw_ld (b := 2) (e := 0) (by decide +kernel) g2 ?_
    refine hw_ld (b := 1) (e := 0) (by decide +kernel) g1 ?_
    refine hw_ld (b := 3) (e := 0) (by decide +kernel) g3 ?_
    refine hr_calls (b := 197) (e := 2) (nl := 2) (As := [(0, l1), (0, l3)]) (R := [(0, l2)]) (by decide +kernel) rfl rfl (Nat.le_of_ble_eq_true rfl) (Nat.le_of_ble_eq_true rfl) ?_
    refine hw_mono H ?_
    rintro r ψ3 y3 ⟨hyx, z3, hr, H⟩
    subst hyx
    subst hr
    refine ⟨hne0, ?_⟩
    show hw sc (d + 1) 242 20 L [(0, z3), (0, l2)] ψ3 y3 Q
    obtain ⟨hz4, ht4, hf4⟩ := H
    refine hw_if (a0 := 0) (b := 0) (e := 31) (by decide +kernel) hz4 (fun q => ?_) (fun q => ?_)
    · have H := ht4 q
      refine hw_k (c := 0) (b := 0) (e := 1) (by decide +kernel) ?_
      refine hw_bin (w := hb_or l2 0) (a0 := 0) (b := 4) (e := 0) (by decide +kernel) rfl ?_
      refine hw_st (L' := (jm_st1 L 2 (0, hb_or l2 0))) (b := 2) (e := 0) (by decide +kernel) rfl ?_
      refine hw_inc (L' := (jm_st1 (jm_st1 L 2 (0, hb_or l2 0)) 3 (0, l3 + 1))) (c := 1) (b := 3) (e := 0) (by decide +kernel) (get_st1 g3 (by decide) (fun q => absurd q.1 (by decide))) rfl ?_
      refine hw_goto (a0 := 0) (b := 0) (e := 4) (by decide +kernel) ?_
      exact H
    · have H := hf4 q
      refine hw_ald (b := 0) (e := 0) (by decide +kernel) g0 (by decide) ?_
      refine hw_ld (b := 3) (e := 0) (by decide +kernel) g3 ?_
      refine hr_call (a0 := 22) (b := 205) (e := 2) (nl := 4) (As := [(0, l3)]) (R := [(0, l2)]) 192 rfl (by decide +kernel) rfl rfl (Nat.le_of_ble_eq_true rfl) (Nat.le_of_ble_eq_true rfl) ?_
      refine hw_mono H ?_
      rintro r ψ5 y5 ⟨hyx, z5, hr, H⟩
      subst hyx
      subst hr
      refine ⟨hne0, ?_⟩
      show hw sc (d + 1) 242 28 L [(0, z5), (0, l2)] ψ5 y5 Q
      refine hw_goto (a0 := 0) (b := 0) (e := 32) (by decide +kernel) ?_
      refine hw_bin (w := hb_or l2 z5) (a0 := 0) (b := 4) (e := 0) (by decide +kernel) rfl ?_
      refine hw_st (L' := (jm_st1 L 2 (0, hb_or l2 z5))) (b := 2) (e := 0) (by decide +kernel) rfl ?_
      refine hw_inc (L' := (jm_st1 (jm_st1 L 2 (0, hb_or l2 z5)) 3 (0, l3 + 1))) (c := 1) (b := 3) (e := 0) (by decide +kernel) (get_st1 g3 (by decide) (fun q => absurd q.1 (by decide))) rfl ?_
      refine hw_goto (a0 := 0) (b := 0) (e := 4) (by decide +kernel) ?_
      exact H
theorem sf_242_192_l4 {sc : List Int} {d x : Nat} {Q : Option jm_V → hf_F → Nat → Prop} : ∀ (n : Nat) (φ : hf_F) (L : jm_L) (l1 l2 l3 : Int), jm_get L 0 = some (2, 192) → jm_get L 1 = some (0, l1) → jm_get L 2 = some (0, l2) → jm_get L 3 = some (0, l3) → Inv φ → 6 - l3 < (n : Int) → (-2147483648 : Int) ≤ l1 → l1 ≤ 2147483647 → (-2147483648 : Int) ≤ l2 → l2 ≤ 2147483647 → 0 ≤ l3 → l3 ≤ 6 → (∀ (r : Int) (ψ : hf_F), Inv ψ → Fr [] φ ψ → True → Q (some (0, r)) ψ x) → hw sc (d + 1) 242 4 L [] φ x Q := by
  intro n
  induction n with
  | zero =>
    intro φ L l1 l2 l3 g0 g1 g2 g3 hI hM b1a b1b b2a b2b b3a b3b hQ
    exfalso
    omega
  | succ n ih =>
    intro φ L l1 l2 l3 g0 g1 g2 g3 hI hM b1a b1b b2a b2b b3a b3b hQ
    refine sf_242_192_v4 g0 g1 g2 g3 ?_
    have f1 := iv_at (a := 194) (k := 3) (lo := 0) (u := 6) hI (by decide +kernel)
    refine ⟨by unfold hi; omega, by unfold hi; omega, fun q1 => ?_, fun q1 => ?_⟩
    · skip
      exact hQ l2 φ hI (fr_rf) trivial
    · skip
      refine sf_197 (φ := φ) hI (by omega) (by omega) (by omega) (by omega) (fun z3 ψ3 hI3 hF3 hp3 => ⟨rfl, z3, rfl, ?_⟩)
      have hG3 : Fr [] φ ψ3 := fr_tr (fr_rf) hF3 (by decide)
      refine ⟨by unfold hi; omega, fun q4 => ?_, fun q4 => ?_⟩
      · skip
        have f2 := hr_or l2 0
        exact ih ψ3 (jm_st1 (jm_st1 L 2 (0, hb_or l2 0)) 3 (0, l3 + 1)) l1 (hb_or l2 0) (l3 + 1) (get_st1 (get_st1 g0 (by decide) (fun q => absurd q.1 (by decide))) (by decide) (fun q => absurd q.1 (by decide))) (get_st1 (get_st1 g1 (by decide) (fun q => tg0 q.2)) (by decide) (fun q => absurd q.1 (by decide))) (get_st1 get_st1e (by decide) (fun q => tg0 q.2)) get_st1e hI3 (by omega) (by omega) (by omega) (by omega) (by omega) (by omega) (by omega) (fun rr χ hIχ hFχ hpχ => hQ rr χ hIχ (fr_tr hG3 hFχ (by decide)) hpχ)
      · skip
        refine sf_205_192 (φ := ψ3) hI3 (by omega) (by omega) (fun z5 ψ5 hI5 hF5 hp5 => ⟨rfl, z5, rfl, ?_⟩)
        have hG5 : Fr [] φ ψ5 := fr_tr hG3 hF5 (by decide)
        have f3 := hr_or l2 z5
        exact ih ψ5 (jm_st1 (jm_st1 L 2 (0, hb_or l2 z5)) 3 (0, l3 + 1)) l1 (hb_or l2 z5) (l3 + 1) (get_st1 (get_st1 g0 (by decide) (fun q => absurd q.1 (by decide))) (by decide) (fun q => absurd q.1 (by decide))) (get_st1 (get_st1 g1 (by decide) (fun q => tg0 q.2)) (by decide) (fun q => absurd q.1 (by decide))) (get_st1 get_st1e (by decide) (fun q => tg0 q.2)) get_st1e hI5 (by omega) (by omega) (by omega) (by omega) (by omega) (by omega) (by omega) (fun rr χ hIχ hFχ hpχ => hQ rr χ hIχ (fr_tr hG5 hFχ (by decide)) hpχ)
theorem sf_242_192_v {sc : List Int} {d : Nat} {φ : hf_F} {x : Nat} {Q : Option jm_V → hf_F → Nat → Prop} {v1 : Int}
    (H : hw sc (d + 1) 242 4 (jm_st1 (jm_st1 [(0, (2, 192)), (1, (0, v1))] 2 (0, 0)) 3 (0, 0)) [] φ x Q) :
    hw sc (d + 1) 242 0 [(0, (2, 192)), (1, (0, v1))] [] φ x Q := by
  refine hw_k (c := 0) (b := 0) (e := 1) (by decide +kernel) ?_
  refine hw_st (L' := (jm_st1 [(0, (2, 192)), (1, (0, v1))] 2 (0, 0))) (b := 2) (e := 0) (by decide +kernel) rfl ?_
  refine hw_k (c := 0) (b := 0) (e := 1) (by decide +kernel) ?_
  refine hw_st (L' := (jm_st1 (jm_st1 [(0, (2, 192)), (1, (0, v1))] 2 (0, 0)) 3 (0, 0))) (b := 3) (e := 0) (by decide +kernel) rfl ?_
  exact H
theorem sf_242_192 {sc : List Int} {d : Nat} {φ : hf_F} {x : Nat} {Q : Option jm_V → hf_F → Nat → Prop} {v1 : Int} (hI : Inv φ) (h1a : (-2147483648 : Int) ≤ v1) (h1b : v1 ≤ 2147483647) (hQ : ∀ (r : Int) (ψ : hf_F), Inv ψ → Fr [] φ ψ → True → Q (some (0, r)) ψ x) : hw sc (d + 1) 242 0 [(0, (2, 192)), (1, (0, v1))] [] φ x Q := by
  apply sf_242_192_v
  exact sf_242_192_l4 ((6 - 0 : Int).toNat + 1) φ (jm_st1 (jm_st1 [(0, (2, 192)), (1, (0, v1))] 2 (0, 0)) 3 (0, 0)) v1 0 0 (get_st1 (get_st1 rfl (by decide) (fun q => absurd q.1 (by decide))) (by decide) (fun q => absurd q.1 (by decide))) (get_st1 (get_st1 rfl (by decide) (fun q => tg0 q.2)) (by decide) (fun q => absurd q.1 (by decide))) (get_st1 get_st1e (by decide) (fun q => tg0 q.2)) get_st1e hI (by omega) (by omega) (by omega) (by omega) (by omega) (by omega) (by omega) (fun rr χ hIχ hFχ hpχ => hQ rr χ hIχ (fr_tr (fr_rf) hFχ (by decide)) hpχ)
theorem sf_275_192_v {sc : List Int} {d : Nat} {φ : hf_F} {x : Nat} {Q : Option jm_V → hf_F → Nat → Prop} {v1 : Int}
    (H : hi v1 ∧ hi 5 ∧ (¬ v1 = 5 → hw sc d 188 0 [(0, (0, v1)), (1, (0, 0)), (2, (0, 4))] [] (hf_up φ 192 0 0) x (fun r ψ2 y2 => y2 = x ∧ (∃ z2 : Int, r = some (0, z2) ∧ (hi z2 ∧ (z2 = 0 → Q (some (0, (-1 : Int))) ψ2 x) ∧ (¬ z2 = 0 → 0 ≤ v1 ∧ v1 < 361 ∧ (Q (some (0, ψ2 194 ((v1).toNat))) ψ2 x)))))) ∧ (¬ (¬ v1 = 5) → Q (some (0, φ 192 2)) (hf_up φ 192 0 0) x)) :
    hw sc (d + 1) 275 0 [(0, (2, 192)), (1, (0, v1))] [] φ x Q := by
  refine hw_ald (b := 0) (e := 0) (by decide +kernel) rfl (by decide) ?_
  refine hw_k (c := 0) (b := 0) (e := 1) (by decide +kernel) ?_
  refine hr_pi (b := 12) (e := 0) 192 rfl (by decide +kernel) ?_
  refine hw_ld (b := 1) (e := 0) (by decide +kernel) rfl ?_
  refine hw_k (c := 5) (b := 0) (e := 1) (by decide +kernel) ?_
  obtain ⟨hz1, hy1, ht1, hf1⟩ := H
  refine hw_if2 (a0 := 0) (b := 1) (e := 17) (by decide +kernel) hz1 hy1 (fun q => ?_) (fun q => ?_)
  · have H := ht1 q
    refine hw_ld (b := 1) (e := 0) (by decide +kernel) rfl ?_
    refine hw_k (c := 0) (b := 0) (e := 1) (by decide +kernel) ?_
    refine hw_k (c := 4) (b := 0) (e := 1) (by decide +kernel) ?_
    refine hr_calls (b := 188) (e := 3) (nl := 3) (As := [(0, v1), (0, 0), (0, 4)]) (R := []) (by decide +kernel) rfl rfl (Nat.le_of_ble_eq_true rfl) (Nat.le_of_ble_eq_true rfl) ?_
    refine hw_mono H ?_
    rintro r ψ2 y2 ⟨hyx, z2, hr, H⟩
    subst hyx
    subst hr
    refine ⟨hne0, ?_⟩
    show hw sc (d + 1) 275 23 [(0, (2, 192)), (1, (0, v1))] [(0, z2)] ψ2 y2 Q
    obtain ⟨hz3, ht3, hf3⟩ := H
    refine hw_if (a0 := 0) (b := 0) (e := 35) (by decide +kernel) hz3 (fun q => ?_) (fun q => ?_)
    · have H := ht3 q
      refine hw_k (c := (-1 : Int)) (b := 0) (e := 1) (by decide +kernel) ?_
      exact hw_ret (a0 := 0) (e := 0) (by decide +kernel) (Or.inl rfl) H
    · have H := hf3 q
      refine hw_ald (b := 0) (e := 0) (by decide +kernel) rfl (by decide) ?_
      refine hr_gr (w := 194) (b := 12) (e := 6) 192 rfl (by decide +kernel) ?_
      refine hw_ld (b := 1) (e := 0) (by decide +kernel) rfl ?_
      obtain ⟨hl5, hu5, H⟩ := H
      refine hr_al (b := 0) (a0 := 0) (e := 0) (n := 361) (w := ψ2 194 ((v1).toNat)) 194 rfl (by decide +kernel) (by decide) hl5 hu5 rfl ?_
      refine hw_goto (a0 := 0) (b := 0) (e := 36) (by decide +kernel) ?_
      exact hw_ret (a0 := 0) (e := 0) (by decide +kernel) (Or.inl rfl) H
  · have H := hf1 q
    refine hw_ald (b := 0) (e := 0) (by decide +kernel) rfl (by decide) ?_
    refine hr_gi (w := φ 192 2) (b := 12) (e := 2) 192 rfl (by decide +kernel) (hf_up_ne (fun q => absurd q.2 (by decide))) ?_
    refine hw_goto (a0 := 0) (b := 0) (e := 36) (by decide +kernel) ?_
    exact hw_ret (a0 := 0) (e := 0) (by decide +kernel) (Or.inl rfl) H
theorem sf_275_192 {sc : List Int} {d : Nat} {φ : hf_F} {x : Nat} {Q : Option jm_V → hf_F → Nat → Prop} {v1 : Int} (hI : Inv φ) (h1a : (-2147483648 : Int) ≤ v1) (h1b : v1 ≤ 2147483647) (hQ : ∀ (r : Int) (ψ : hf_F), Inv ψ → Fr [192] φ ψ → True → Q (some (0, r)) ψ x) : hw sc (d + 1) 275 0 [(0, (2, 192)), (1, (0, v1))] [] φ x Q := by
  apply sf_275_192_v
  have i1 : Inv (hf_up φ 192 0 0) := iv_up (lo := 0) (u := 1) hI (by decide +kernel) (by omega) (by omega)
  have r1 : Fr [192] φ (hf_up φ 192 0 0) := fr_up (fr_rf) (by decide)
  refine ⟨by unfold hi; omega, by unfold hi; omega, fun q1 => ?_, fun q1 => ?_⟩
  · skip
    refine sf_188 (φ := (hf_up φ 192 0 0)) i1 (by omega) (by omega) (by omega) (by omega) (by omega) (by omega) (fun z2 ψ2 hI2 hF2 hp2 => ⟨rfl, z2, rfl, ?_⟩)
    have hG2 : Fr [192] φ ψ2 := fr_tr r1 hF2 (by decide)
    refine ⟨by unfold hi; omega, fun q3 => ?_, fun q3 => ?_⟩
    · skip
      exact hQ (-1 : Int) ψ2 hI2 hG2 trivial
    · skip
      refine ⟨by omega, by omega, ?_⟩
      have f2 : ψ2 194 ((v1).toNat) = φ 194 ((v1).toNat) := (hF2 194 (by decide) ((v1).toNat)).trans (hf_up_ne (fun q => absurd q.1 (by decide)))
      exact hQ (ψ2 194 ((v1).toNat)) ψ2 hI2 hG2 trivial
  · skip
    have f3 := iv_at (a := 192) (k := 2) (lo := 0) (u := 940) hI (by decide +kernel)
    exact hQ (φ 192 2) (hf_up φ 192 0 0) i1 r1 trivial
