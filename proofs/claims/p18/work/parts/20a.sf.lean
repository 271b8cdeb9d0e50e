theorem sf_23_0_v {sc : List Int} {d : Nat} {φ : hf_F} {x : Nat} {Q : Option jm_V → hf_F → Nat → Prop} {v1 : Int}
    (H : hi v1 ∧ (v1 < 0 → Q (some (0, 0)) φ x) ∧ (¬ v1 < 0 → hi v1 ∧ hi (φ 1 2) ∧ (v1 ≤ (φ 1 2) → Q (some (0, 1)) (hf_up φ 1 2 v1) x) ∧ (¬ v1 ≤ (φ 1 2) → Q (some (0, 0)) φ x))) :
    hw sc d 23 0 [(0, (2, 0)), (1, (0, v1))] [] φ x Q := by
  refine hw_ld (b := 1) (e := 0) (by decide +kernel) rfl ?_
  obtain ⟨hz1, ht1, hf1⟩ := H
  refine hw_if (a0 := 0) (b := 2) (e := 15) (by decide +kernel) hz1 (fun q => ?_) (fun q => ?_)
  · have H := ht1 q
    refine hw_k (c := 0) (b := 0) (e := 1) (by decide +kernel) ?_
    exact hw_ret (a0 := 0) (e := 1) (by decide +kernel) (Or.inr ⟨rfl, by decide⟩) H
  · have H := hf1 q
    refine hw_ld (b := 1) (e := 0) (by decide +kernel) rfl ?_
    refine hw_ald (b := 0) (e := 0) (by decide +kernel) rfl (by decide) ?_
    refine hr_gr (w := 1) (b := 0) (e := 0) 0 rfl (by decide +kernel) ?_
    refine hr_gi (w := φ 1 2) (b := 1) (e := 2) 1 rfl (by decide +kernel) rfl ?_
    obtain ⟨hz3, hy3, ht3, hf3⟩ := H
    refine hw_if2 (a0 := 0) (b := 5) (e := 17) (by decide +kernel) hz3 hy3 (fun q => ?_) (fun q => ?_)
    · have H := ht3 q
      refine hw_ald (b := 0) (e := 0) (by decide +kernel) rfl (by decide) ?_
      refine hr_gr (w := 1) (b := 0) (e := 0) 0 rfl (by decide +kernel) ?_
      refine hw_ld (b := 1) (e := 0) (by decide +kernel) rfl ?_
      refine hr_pi (b := 1) (e := 2) 1 rfl (by decide +kernel) ?_
      refine hw_k (c := 1) (b := 0) (e := 1) (by decide +kernel) ?_
      exact hw_ret (a0 := 0) (e := 1) (by decide +kernel) (Or.inr ⟨rfl, by decide⟩) H
    · have H := hf3 q
      refine hw_k (c := 0) (b := 0) (e := 1) (by decide +kernel) ?_
      exact hw_ret (a0 := 0) (e := 1) (by decide +kernel) (Or.inr ⟨rfl, by decide⟩) H
theorem sf_23_0 {sc : List Int} {d : Nat} {φ : hf_F} {x : Nat} {Q : Option jm_V → hf_F → Nat → Prop} {v1 : Int} (hI : Inv φ) (h1a : (-2147483648 : Int) ≤ v1) (h1b : v1 ≤ 2147483647) (hQ : ∀ (r : Int) (ψ : hf_F), Inv ψ → Fr [2002] φ ψ → 0 ≤ r ∧ r ≤ 1 ∧ ((r = 0 ∧ (v1 < 0 ∨ φ 1 2 < v1) ∧ ψ 1 2 = φ 1 2) ∨ (r = 1 ∧ 0 ≤ v1 ∧ v1 ≤ φ 1 2 ∧ ψ 1 2 = v1)) → F_RideLaws_end_0 φ v1 = (r, ψ) → Q (some (0, r)) ψ x) : hw sc d 23 0 [(0, (2, 0)), (1, (0, v1))] [] φ x Q := by
  apply sf_23_0_v
  have e0 : F_RideLaws_end_0 φ v1 = _ := rfl
  refine ⟨by unfold hi; omega, fun q1 => ?_, fun q1 => ?_⟩
  · skip
    have e1a := e0.trans (if_pos q1)
    have f1 := iv_at (a := 1) (k := 2) (lo := 0) (u := 940) hI (by decide +kernel)
    exact hQ 0 φ hI (fr_rf) ⟨by omega, by omega, by omega⟩ e1a
  · skip
    have e1b := e0.trans (if_neg q1)
    have f2 := iv_at (a := 1) (k := 2) (lo := 0) (u := 940) hI (by decide +kernel)
    refine ⟨by unfold hi; omega, by unfold hi; omega, fun q3 => ?_, fun q3 => ?_⟩
    · skip
      have e3a := e1b.trans (if_pos q3)
      have i3 : Inv (hf_up φ 1 2 v1) := iv_up (lo := 0) (u := 940) hI (by decide +kernel) (by omega) (by omega)
      have r3 : Fr [2002] φ (hf_up φ 1 2 v1) := fr_up (fr_rf) (by decide)
      have f4 : (hf_up φ 1 2 v1) 1 2 = v1 := hf_up_eq
      exact hQ 1 (hf_up φ 1 2 v1) i3 r3 ⟨by omega, by omega, by omega⟩ e3a
    · skip
      have e3b := e1b.trans (if_neg q3)
      exact hQ 0 φ hI (fr_rf) ⟨by omega, by omega, by omega⟩ e3b
theorem sf_22_1_v3 {sc : List Int} {d : Nat} {φ : hf_F} {x : Nat} {Q : Option jm_V → hf_F → Nat → Prop} {L : jm_L} {l1 l2 : Int} (g0 : jm_get L 0 = some (2, 1)) (g1 : jm_get L 1 = some (0, l1)) (g2 : jm_get L 2 = some (0, l2))
    (H : hi l2 ∧ (l2 < 0 → Q none φ x) ∧ (¬ l2 < 0 → hi (φ 1 2) ∧ hi 940 ∧ (940 ≤ (φ 1 2) → hw sc d 22 3 (jm_st1 L 2 (0, l2 + (-8 : Int))) [] φ x Q) ∧ (¬ 940 ≤ (φ 1 2) → 0 ≤ (φ 1 2) ∧ (φ 1 2) < 940 ∧ (hw sc d 22 3 (jm_st1 L 2 (0, l2 + (-8 : Int))) [] (hf_up (hf_up φ 2 ((φ 1 2).toNat) (jm_b (hb_i2b (hb_ushr l1 l2)))) 1 2 ((φ 1 2) + 1)) x Q)))) :
    hw sc d 22 3 L [] φ x Q := by
  refine hw_ld (b := 2) (e := 0) (by decide +kernel) g2 ?_
  obtain ⟨hz1, ht1, hf1⟩ := H
  refine hw_if (a0 := 0) (b := 2) (e := 46) (by decide +kernel) hz1 (fun q => ?_) (fun q => ?_)
  · have H := ht1 q
    exact hw_vret (a0 := 0) (e := 0) (by decide +kernel) H
  · have H := hf1 q
    refine hw_ald (b := 0) (e := 0) (by decide +kernel) g0 (by decide) ?_
    refine hr_gi (w := φ 1 2) (b := 1) (e := 2) 1 rfl (by decide +kernel) rfl ?_
    refine hw_k (c := 940) (b := 2) (e := 3) (by decide +kernel) ?_
    obtain ⟨hz3, hy3, ht3, hf3⟩ := H
    refine hw_if2 (a0 := 0) (b := 3) (e := 40) (by decide +kernel) hz3 hy3 (fun q => ?_) (fun q => ?_)
    · have H := ht3 q
      refine hw_inc (L' := (jm_st1 L 2 (0, l2 + (-8 : Int)))) (c := (-8 : Int)) (b := 2) (e := 0) (by decide +kernel) g2 rfl ?_
      refine hw_goto (a0 := 0) (b := 0) (e := 3) (by decide +kernel) ?_
      exact H
    · have H := hf3 q
      refine hw_ald (b := 0) (e := 0) (by decide +kernel) g0 (by decide) ?_
      refine hr_gr (w := 2) (b := 1) (e := 0) 1 rfl (by decide +kernel) ?_
      refine hw_ald (b := 0) (e := 0) (by decide +kernel) g0 (by decide) ?_
      refine hr_gi (w := φ 1 2) (b := 1) (e := 2) 1 rfl (by decide +kernel) rfl ?_
      refine hw_ld (b := 1) (e := 0) (by decide +kernel) g1 ?_
      refine hw_ld (b := 2) (e := 0) (by decide +kernel) g2 ?_
      refine hw_bin (w := hb_ushr l1 l2) (a0 := 0) (b := 8) (e := 0) (by decide +kernel) rfl ?_
      refine hw_conv (t' := 0) (w := hb_i2b (hb_ushr l1 l2)) (a0 := 0) (b := 2) (e := 0) (by decide +kernel) rfl ?_
      obtain ⟨hl4, hu4, H⟩ := H
      refine hr_asb (a0 := 0) (e := 4) (n := 940) 2 rfl (by decide +kernel) hl4 hu4 ?_
      refine hw_ald (b := 0) (e := 0) (by decide +kernel) g0 (by decide) ?_
      refine hw_dup (a0 := 0) (e := 0) (by decide +kernel) (by decide) ?_
      refine hr_gi (w := φ 1 2) (b := 1) (e := 2) 1 rfl (by decide +kernel) (hf_up_ne (fun q => absurd q.1 (by decide))) ?_
      refine hw_k (c := 1) (b := 0) (e := 1) (by decide +kernel) ?_
      refine hw_bin (w := (φ 1 2) + 1) (a0 := 0) (b := 0) (e := 0) (by decide +kernel) rfl ?_
      refine hr_pi (b := 1) (e := 2) 1 rfl (by decide +kernel) ?_
      refine hw_inc (L' := (jm_st1 L 2 (0, l2 + (-8 : Int)))) (c := (-8 : Int)) (b := 2) (e := 0) (by decide +kernel) g2 rfl ?_
      refine hw_goto (a0 := 0) (b := 0) (e := 3) (by decide +kernel) ?_
      exact H
theorem sf_22_1_l3 {sc : List Int} {d x : Nat} {Q : Option jm_V → hf_F → Nat → Prop} : ∀ (n : Nat) (φ : hf_F) (L : jm_L) (l1 l2 : Int), jm_get L 0 = some (2, 1) → jm_get L 1 = some (0, l1) → jm_get L 2 = some (0, l2) → Inv φ → l2 + 8 < (n : Int) → (-8 : Int) ≤ l2 → l2 ≤ 24 → (∀ ψ : hf_F, Inv ψ → Fr [2, 2002] φ ψ → (φ 1 2 + (l2 + 8) / 8 ≤ 940 → ψ 1 2 = φ 1 2 + (l2 + 8) / 8) → F_Reader_put_1_l3 n φ l1 l2 = ψ → Q none ψ x) → hw sc d 22 3 L [] φ x Q := by
  intro n
  induction n with
  | zero =>
    intro φ L l1 l2 g0 g1 g2 hI hM b2a b2b hQ
    exfalso
    omega
  | succ n ih =>
    intro φ L l1 l2 g0 g1 g2 hI hM b2a b2b hQ
    refine sf_22_1_v3 g0 g1 g2 ?_
    have e0 := F_Reader_put_1_l3_s (φ := φ) (l1 := l1) (l2 := l2) n
    refine ⟨by unfold hi; omega, fun q1 => ?_, fun q1 => ?_⟩
    · skip
      have e1a := e0.trans (if_pos q1)
      have f1 := iv_at (a := 1) (k := 2) (lo := 0) (u := 940) hI (by decide +kernel)
      exact hQ φ hI (fr_rf) (by omega) e1a
    · skip
      have e1b := e0.trans (if_neg q1)
      have f2 := iv_at (a := 1) (k := 2) (lo := 0) (u := 940) hI (by decide +kernel)
      refine ⟨by unfold hi; omega, by unfold hi; omega, fun q3 => ?_, fun q3 => ?_⟩
      · skip
        have e3a := e1b.trans (if_pos q3)
        exact ih φ (jm_st1 L 2 (0, l2 + (-8 : Int))) l1 (l2 + (-8 : Int)) (get_st1 g0 (by decide) (fun q => absurd q.1 (by decide))) (get_st1 g1 (by decide) (fun q => tg0 q.2)) get_st1e hI (by omega) (by omega) (by omega) (fun χ hIχ hFχ hVχ hEχ => hQ χ hIχ (fr_tr (fr_rf) hFχ (by decide)) (by omega) (e3a.trans hEχ))
      · skip
        have e3b := e1b.trans (if_neg q3)
        have f3 := hr_ushr l1 l2
        have f4 := hr_i2b (hb_ushr l1 l2)
        refine ⟨by omega, by omega, ?_⟩
        have f5 := hr_jmb (hb_i2b (hb_ushr l1 l2))
        have i6 : Inv (hf_up φ 2 ((φ 1 2).toNat) (jm_b (hb_i2b (hb_ushr l1 l2)))) := iv_upI (s := 0) (t := 940) (lo := (-128 : Int)) (u := 127) (z := φ 1 2) hI (by decide +kernel) (by omega) (by omega) (by omega) (by omega)
        have r6 : Fr [2, 2002] φ (hf_up φ 2 ((φ 1 2).toNat) (jm_b (hb_i2b (hb_ushr l1 l2)))) := fr_upa (fr_rf) (by decide)
        have i7 : Inv (hf_up (hf_up φ 2 ((φ 1 2).toNat) (jm_b (hb_i2b (hb_ushr l1 l2)))) 1 2 ((φ 1 2) + 1)) := iv_up (lo := 0) (u := 940) i6 (by decide +kernel) (by omega) (by omega)
        have r7 : Fr [2, 2002] φ (hf_up (hf_up φ 2 ((φ 1 2).toNat) (jm_b (hb_i2b (hb_ushr l1 l2)))) 1 2 ((φ 1 2) + 1)) := fr_up r6 (by decide)
        have f8 : (hf_up (hf_up φ 2 ((φ 1 2).toNat) (jm_b (hb_i2b (hb_ushr l1 l2)))) 1 2 ((φ 1 2) + 1)) 1 2 = (φ 1 2) + 1 := hf_up_eq
        exact ih (hf_up (hf_up φ 2 ((φ 1 2).toNat) (jm_b (hb_i2b (hb_ushr l1 l2)))) 1 2 ((φ 1 2) + 1)) (jm_st1 L 2 (0, l2 + (-8 : Int))) l1 (l2 + (-8 : Int)) (get_st1 g0 (by decide) (fun q => absurd q.1 (by decide))) (get_st1 g1 (by decide) (fun q => tg0 q.2)) get_st1e i7 (by omega) (by omega) (by omega) (fun χ hIχ hFχ hVχ hEχ => hQ χ hIχ (fr_tr r7 hFχ (by decide)) (by omega) (e3b.trans hEχ))
theorem sf_22_1_v {sc : List Int} {d : Nat} {φ : hf_F} {x : Nat} {Q : Option jm_V → hf_F → Nat → Prop} {v1 : Int}
    (H : hw sc d 22 3 (jm_st1 [(0, (2, 1)), (1, (0, v1))] 2 (0, 24)) [] φ x Q) :
    hw sc d 22 0 [(0, (2, 1)), (1, (0, v1))] [] φ x Q := by
  refine hw_k (c := 24) (b := 1) (e := 2) (by decide +kernel) ?_
  refine hw_st (L' := (jm_st1 [(0, (2, 1)), (1, (0, v1))] 2 (0, 24))) (b := 2) (e := 0) (by decide +kernel) rfl ?_
  exact H
theorem sf_22_1 {sc : List Int} {d : Nat} {φ : hf_F} {x : Nat} {Q : Option jm_V → hf_F → Nat → Prop} {v1 : Int} (hI : Inv φ) (h1a : (-2147483648 : Int) ≤ v1) (h1b : v1 ≤ 2147483647) (hQ : ∀ ψ : hf_F, Inv ψ → Fr [2, 2002] φ ψ → (φ 1 2 ≤ 936 → ψ 1 2 = φ 1 2 + 4) → F_Reader_put_1 φ v1 = ψ → Q none ψ x) : hw sc d 22 0 [(0, (2, 1)), (1, (0, v1))] [] φ x Q := by
  apply sf_22_1_v
  have e0 : F_Reader_put_1 φ v1 = _ := rfl
  have f1 := iv_at (a := 1) (k := 2) (lo := 0) (u := 940) hI (by decide +kernel)
  exact sf_22_1_l3 ((24 + 8 : Int).toNat + 1) φ (jm_st1 [(0, (2, 1)), (1, (0, v1))] 2 (0, 24)) v1 24 (get_st1 rfl (by decide) (fun q => absurd q.1 (by decide))) (get_st1 rfl (by decide) (fun q => tg0 q.2)) get_st1e hI (by omega) (by omega) (by omega) (fun χ hIχ hFχ hVχ hEχ => hQ χ hIχ (fr_tr (fr_rf) hFχ (by decide)) (by omega) (e0.trans hEχ))
theorem sf_21_0_v {sc : List Int} {d : Nat} {φ : hf_F} {x : Nat} {Q : Option jm_V → hf_F → Nat → Prop} {v1 v2 v3 v4 v5 : Int}
    (H : hi ((φ 1 2) + 20) ∧ hi 940 ∧ (((φ 1 2) + 20) ≤ 940 → hw sc d 22 0 [(0, (2, 1)), (1, (0, v1))] [] φ x (fun r ψ2 y2 => y2 = x ∧ (r = none ∧ (hw sc d 22 0 [(0, (2, 1)), (1, (0, v2))] [] ψ2 x (fun r ψ3 y3 => y3 = x ∧ (r = none ∧ (hw sc d 22 0 [(0, (2, 1)), (1, (0, v3))] [] ψ3 x (fun r ψ4 y4 => y4 = x ∧ (r = none ∧ (hw sc d 22 0 [(0, (2, 1)), (1, (0, v4))] [] ψ4 x (fun r ψ5 y5 => y5 = x ∧ (r = none ∧ (hw sc d 22 0 [(0, (2, 1)), (1, (0, v5))] [] ψ5 x (fun r ψ6 y6 => y6 = x ∧ (r = none ∧ (Q (some (0, ψ6 1 2)) ψ6 x)))))))))))))))) ∧ (¬ ((φ 1 2) + 20) ≤ 940 → Q (some (0, (-1 : Int))) φ x)) :
    hw sc (d + 1) 21 0 [(0, (2, 0)), (1, (0, v1)), (2, (0, v2)), (3, (0, v3)), (4, (0, v4)), (5, (0, v5))] [] φ x Q := by
  refine hw_ald (b := 0) (e := 0) (by decide +kernel) rfl (by decide) ?_
  refine hr_gr (w := 1) (b := 0) (e := 0) 0 rfl (by decide +kernel) ?_
  refine hr_gi (w := φ 1 2) (b := 1) (e := 2) 1 rfl (by decide +kernel) rfl ?_
  refine hw_k (c := 20) (b := 1) (e := 2) (by decide +kernel) ?_
  refine hw_bin (w := (φ 1 2) + 20) (a0 := 0) (b := 0) (e := 0) (by decide +kernel) rfl ?_
  refine hw_k (c := 940) (b := 2) (e := 3) (by decide +kernel) ?_
  obtain ⟨hz1, hy1, ht1, hf1⟩ := H
  refine hw_if2 (a0 := 0) (b := 5) (e := 18) (by decide +kernel) hz1 hy1 (fun q => ?_) (fun q => ?_)
  · have H := ht1 q
    refine hw_ald (b := 0) (e := 0) (by decide +kernel) rfl (by decide) ?_
    refine hr_gr (w := 1) (b := 0) (e := 0) 0 rfl (by decide +kernel) ?_
    refine hw_ld (b := 1) (e := 0) (by decide +kernel) rfl ?_
    refine hr_call (a0 := 11) (b := 22) (e := 2) (nl := 3) (As := [(0, v1)]) (R := []) 1 rfl (by decide +kernel) rfl rfl (Nat.le_of_ble_eq_true rfl) (Nat.le_of_ble_eq_true rfl) ?_
    refine hw_mono H ?_
    rintro r ψ2 y2 ⟨hyx, hr, H⟩
    subst hyx
    subst hr
    refine ⟨hnen, ?_⟩
    show hw sc (d + 1) 21 26 [(0, (2, 0)), (1, (0, v1)), (2, (0, v2)), (3, (0, v3)), (4, (0, v4)), (5, (0, v5))] [] ψ2 y2 Q
    refine hw_ald (b := 0) (e := 0) (by decide +kernel) rfl (by decide) ?_
    refine hr_gr (w := 1) (b := 0) (e := 0) 0 rfl (by decide +kernel) ?_
    refine hw_ld (b := 2) (e := 0) (by decide +kernel) rfl ?_
    refine hr_call (a0 := 11) (b := 22) (e := 2) (nl := 3) (As := [(0, v2)]) (R := []) 1 rfl (by decide +kernel) rfl rfl (Nat.le_of_ble_eq_true rfl) (Nat.le_of_ble_eq_true rfl) ?_
    refine hw_mono H ?_
    rintro r ψ3 y3 ⟨hyx, hr, H⟩
    subst hyx
    subst hr
    refine ⟨hnen, ?_⟩
    show hw sc (d + 1) 21 34 [(0, (2, 0)), (1, (0, v1)), (2, (0, v2)), (3, (0, v3)), (4, (0, v4)), (5, (0, v5))] [] ψ3 y3 Q
    refine hw_ald (b := 0) (e := 0) (by decide +kernel) rfl (by decide) ?_
    refine hr_gr (w := 1) (b := 0) (e := 0) 0 rfl (by decide +kernel) ?_
    refine hw_ld (b := 3) (e := 0) (by decide +kernel) rfl ?_
    refine hr_call (a0 := 11) (b := 22) (e := 2) (nl := 3) (As := [(0, v3)]) (R := []) 1 rfl (by decide +kernel) rfl rfl (Nat.le_of_ble_eq_true rfl) (Nat.le_of_ble_eq_true rfl) ?_
    refine hw_mono H ?_
    rintro r ψ4 y4 ⟨hyx, hr, H⟩
    subst hyx
    subst hr
    refine ⟨hnen, ?_⟩
    show hw sc (d + 1) 21 42 [(0, (2, 0)), (1, (0, v1)), (2, (0, v2)), (3, (0, v3)), (4, (0, v4)), (5, (0, v5))] [] ψ4 y4 Q
    refine hw_ald (b := 0) (e := 0) (by decide +kernel) rfl (by decide) ?_
    refine hr_gr (w := 1) (b := 0) (e := 0) 0 rfl (by decide +kernel) ?_
    refine hw_ld (b := 4) (e := 1) (by decide +kernel) rfl ?_
    refine hr_call (a0 := 11) (b := 22) (e := 2) (nl := 3) (As := [(0, v4)]) (R := []) 1 rfl (by decide +kernel) rfl rfl (Nat.le_of_ble_eq_true rfl) (Nat.le_of_ble_eq_true rfl) ?_
    refine hw_mono H ?_
    rintro r ψ5 y5 ⟨hyx, hr, H⟩
    subst hyx
    subst hr
    refine ⟨hnen, ?_⟩
    show hw sc (d + 1) 21 51 [(0, (2, 0)), (1, (0, v1)), (2, (0, v2)), (3, (0, v3)), (4, (0, v4)), (5, (0, v5))] [] ψ5 y5 Q
    refine hw_ald (b := 0) (e := 0) (by decide +kernel) rfl (by decide) ?_
    refine hr_gr (w := 1) (b := 0) (e := 0) 0 rfl (by decide +kernel) ?_
    refine hw_ld (b := 5) (e := 1) (by decide +kernel) rfl ?_
    refine hr_call (a0 := 11) (b := 22) (e := 2) (nl := 3) (As := [(0, v5)]) (R := []) 1 rfl (by decide +kernel) rfl rfl (Nat.le_of_ble_eq_true rfl) (Nat.le_of_ble_eq_true rfl) ?_
    refine hw_mono H ?_
    rintro r ψ6 y6 ⟨hyx, hr, H⟩
    subst hyx
    subst hr
    refine ⟨hnen, ?_⟩
    show hw sc (d + 1) 21 60 [(0, (2, 0)), (1, (0, v1)), (2, (0, v2)), (3, (0, v3)), (4, (0, v4)), (5, (0, v5))] [] ψ6 y6 Q
    refine hw_ald (b := 0) (e := 0) (by decide +kernel) rfl (by decide) ?_
    refine hr_gr (w := 1) (b := 0) (e := 0) 0 rfl (by decide +kernel) ?_
    refine hr_gi (w := ψ6 1 2) (b := 1) (e := 2) 1 rfl (by decide +kernel) rfl ?_
    exact hw_ret (a0 := 0) (e := 0) (by decide +kernel) (Or.inl rfl) H
  · have H := hf1 q
    refine hw_k (c := (-1 : Int)) (b := 0) (e := 1) (by decide +kernel) ?_
    exact hw_ret (a0 := 0) (e := 0) (by decide +kernel) (Or.inl rfl) H
theorem sf_21_0 {sc : List Int} {d : Nat} {φ : hf_F} {x : Nat} {Q : Option jm_V → hf_F → Nat → Prop} {v1 v2 v3 v4 v5 : Int} (hI : Inv φ) (h1a : (-2147483648 : Int) ≤ v1) (h1b : v1 ≤ 2147483647) (h2a : (-2147483648 : Int) ≤ v2) (h2b : v2 ≤ 2147483647) (h3a : (-2147483648 : Int) ≤ v3) (h3b : v3 ≤ 2147483647) (h4a : (-2147483648 : Int) ≤ v4) (h4b : v4 ≤ 2147483647) (h5a : (-2147483648 : Int) ≤ v5) (h5b : v5 ≤ 2147483647) (hQ : ∀ (r : Int) (ψ : hf_F), Inv ψ → Fr [2, 2002] φ ψ → True ∧ ((r = -1 ∧ 921 ≤ φ 1 2 ∧ ψ 1 2 = φ 1 2) ∨ (φ 1 2 ≤ 920 ∧ ψ 1 2 = φ 1 2 + 20 ∧ r = φ 1 2 + 20)) → F_RideLaws_feed_0 φ v1 v2 v3 v4 v5 = (r, ψ) → Q (some (0, r)) ψ x) : hw sc (d + 1) 21 0 [(0, (2, 0)), (1, (0, v1)), (2, (0, v2)), (3, (0, v3)), (4, (0, v4)), (5, (0, v5))] [] φ x Q := by
  apply sf_21_0_v
  have e0 : F_RideLaws_feed_0 φ v1 v2 v3 v4 v5 = _ := rfl
  have f1 := iv_at (a := 1) (k := 2) (lo := 0) (u := 940) hI (by decide +kernel)
  refine ⟨by unfold hi; omega, by unfold hi; omega, fun q1 => ?_, fun q1 => ?_⟩
  · skip
    have e1a := e0.trans (if_pos q1)
    refine sf_22_1 (φ := φ) hI (by omega) (by omega) (fun ψ2 hI2 hF2 hV2 hE2 => ⟨rfl, rfl, ?_⟩)
    have hG2 : Fr [2, 2002] φ ψ2 := fr_tr (fr_rf) hF2 (by decide)
    have f2 := iv_at (a := 1) (k := 2) (lo := 0) (u := 940) hI2 (by decide +kernel)
    have e2 := e1a.trans (bnv_e hE2)
    refine sf_22_1 (φ := ψ2) hI2 (by omega) (by omega) (fun ψ3 hI3 hF3 hV3 hE3 => ⟨rfl, rfl, ?_⟩)
    have hG3 : Fr [2, 2002] φ ψ3 := fr_tr hG2 hF3 (by decide)
    have f3 := iv_at (a := 1) (k := 2) (lo := 0) (u := 940) hI3 (by decide +kernel)
    have e3 := e2.trans (bnv_e hE3)
    refine sf_22_1 (φ := ψ3) hI3 (by omega) (by omega) (fun ψ4 hI4 hF4 hV4 hE4 => ⟨rfl, rfl, ?_⟩)
    have hG4 : Fr [2, 2002] φ ψ4 := fr_tr hG3 hF4 (by decide)
    have f4 := iv_at (a := 1) (k := 2) (lo := 0) (u := 940) hI4 (by decide +kernel)
    have e4 := e3.trans (bnv_e hE4)
    refine sf_22_1 (φ := ψ4) hI4 (by omega) (by omega) (fun ψ5 hI5 hF5 hV5 hE5 => ⟨rfl, rfl, ?_⟩)
    have hG5 : Fr [2, 2002] φ ψ5 := fr_tr hG4 hF5 (by decide)
    have f5 := iv_at (a := 1) (k := 2) (lo := 0) (u := 940) hI5 (by decide +kernel)
    have e5 := e4.trans (bnv_e hE5)
    refine sf_22_1 (φ := ψ5) hI5 (by omega) (by omega) (fun ψ6 hI6 hF6 hV6 hE6 => ⟨rfl, rfl, ?_⟩)
    have hG6 : Fr [2, 2002] φ ψ6 := fr_tr hG5 hF6 (by decide)
    have f6 := iv_at (a := 1) (k := 2) (lo := 0) (u := 940) hI6 (by decide +kernel)
    have e6 := e5.trans (bnv_e hE6)
    exact hQ (ψ6 1 2) ψ6 hI6 hG6 ⟨trivial, by omega⟩ e6
  · skip
    have e1b := e0.trans (if_neg q1)
    exact hQ (-1 : Int) φ hI (fr_rf) ⟨trivial, by omega⟩ e1b
theorem sf_125_0_v {sc : List Int} {d : Nat} {φ : hf_F} {x : Nat} {Q : Option jm_V → hf_F → Nat → Prop} {v1 : Int}
    (H : hi v1 ∧ (v1 < 0 → Q (some (0, (-1 : Int))) φ x) ∧ (¬ v1 < 0 → hi v1 ∧ hi (φ 189 1) ∧ ((φ 189 1) ≤ v1 → Q (some (0, (-1 : Int))) φ x) ∧ (¬ (φ 189 1) ≤ v1 → 0 ≤ v1 ∧ v1 < 32 ∧ (Q (some (0, φ 190 ((v1).toNat))) φ x)))) :
    hw sc d 125 0 [(0, (2, 0)), (1, (0, v1))] [] φ x Q := by
  refine hw_ld (b := 1) (e := 0) (by decide +kernel) rfl ?_
  obtain ⟨hz1, ht1, hf1⟩ := H
  refine hw_if (a0 := 0) (b := 2) (e := 27) (by decide +kernel) hz1 (fun q => ?_) (fun q => ?_)
  · have H := ht1 q
    refine hw_k (c := (-1 : Int)) (b := 0) (e := 1) (by decide +kernel) ?_
    exact hw_ret (a0 := 0) (e := 0) (by decide +kernel) (Or.inl rfl) H
  · have H := hf1 q
    refine hw_ld (b := 1) (e := 0) (by decide +kernel) rfl ?_
    refine hw_ald (b := 0) (e := 0) (by decide +kernel) rfl (by decide) ?_
    refine hr_gr (w := 189) (b := 0) (e := 10) 0 rfl (by decide +kernel) ?_
    refine hr_gi (w := φ 189 1) (b := 11) (e := 1) 189 rfl (by decide +kernel) rfl ?_
    obtain ⟨hz3, hy3, ht3, hf3⟩ := H
    refine hw_if2 (a0 := 0) (b := 3) (e := 27) (by decide +kernel) hz3 hy3 (fun q => ?_) (fun q => ?_)
    · have H := ht3 q
      refine hw_k (c := (-1 : Int)) (b := 0) (e := 1) (by decide +kernel) ?_
      exact hw_ret (a0 := 0) (e := 0) (by decide +kernel) (Or.inl rfl) H
    · have H := hf3 q
      refine hw_ald (b := 0) (e := 0) (by decide +kernel) rfl (by decide) ?_
      refine hr_gr (w := 189) (b := 0) (e := 10) 0 rfl (by decide +kernel) ?_
      refine hr_gr (w := 190) (b := 11) (e := 0) 189 rfl (by decide +kernel) ?_
      refine hw_ld (b := 1) (e := 0) (by decide +kernel) rfl ?_
      obtain ⟨hl5, hu5, H⟩ := H
      refine hr_al (b := 1) (a0 := 0) (e := 0) (n := 32) (w := φ 190 ((v1).toNat)) 190 rfl (by decide +kernel) (by decide) hl5 hu5 rfl ?_
      refine hw_goto (a0 := 0) (b := 0) (e := 28) (by decide +kernel) ?_
      exact hw_ret (a0 := 0) (e := 0) (by decide +kernel) (Or.inl rfl) H
theorem sf_125_0 {sc : List Int} {d : Nat} {φ : hf_F} {x : Nat} {Q : Option jm_V → hf_F → Nat → Prop} {v1 : Int} (hI : Inv φ) (h1a : (-2147483648 : Int) ≤ v1) (h1b : v1 ≤ 2147483647) (hQ : ∀ (r : Int), True → F_RideLaws_byteAt_0 φ v1 = r → Q (some (0, r)) φ x) : hw sc d 125 0 [(0, (2, 0)), (1, (0, v1))] [] φ x Q := by
  apply sf_125_0_v
  have e0 : F_RideLaws_byteAt_0 φ v1 = _ := rfl
  refine ⟨by unfold hi; omega, fun q1 => ?_, fun q1 => ?_⟩
  · skip
    have e1a := e0.trans (if_pos q1)
    exact hQ (-1 : Int) trivial e1a
  · skip
    have e1b := e0.trans (if_neg q1)
    have f1 := iv_at (a := 189) (k := 1) (lo := 0) (u := 32) hI (by decide +kernel)
    refine ⟨by unfold hi; omega, by unfold hi; omega, fun q3 => ?_, fun q3 => ?_⟩
    · skip
      have e3a := e1b.trans (if_pos q3)
      exact hQ (-1 : Int) trivial e3a
    · skip
      have e3b := e1b.trans (if_neg q3)
      refine ⟨by omega, by omega, ?_⟩
      have f2 := iv_ar (a := 190) (s := 0) (t := 32) (lo := (-128 : Int)) (u := 127) (z := v1) hI (by decide +kernel) (by omega) (by omega)
      exact hQ (φ 190 ((v1).toNat)) trivial e3b
theorem sf_143_0_v {sc : List Int} {d : Nat} {φ : hf_F} {x : Nat} {Q : Option jm_V → hf_F → Nat → Prop} {v1 : Int}
    (H : hi v1 ∧ (v1 < 0 → Q (some (0, (-1 : Int))) φ x) ∧ (¬ v1 < 0 → hi v1 ∧ hi 4 ∧ (4 ≤ v1 → Q (some (0, (-1 : Int))) φ x) ∧ (¬ 4 ≤ v1 → 0 ≤ v1 ∧ v1 < 4 ∧ (Q (some (0, φ 191 ((v1).toNat))) φ x)))) :
    hw sc d 143 0 [(0, (2, 0)), (1, (0, v1))] [] φ x Q := by
  refine hw_ld (b := 1) (e := 0) (by decide +kernel) rfl ?_
  obtain ⟨hz1, ht1, hf1⟩ := H
  refine hw_if (a0 := 0) (b := 2) (e := 22) (by decide +kernel) hz1 (fun q => ?_) (fun q => ?_)
  · have H := ht1 q
    refine hw_k (c := (-1 : Int)) (b := 0) (e := 1) (by decide +kernel) ?_
    exact hw_ret (a0 := 0) (e := 0) (by decide +kernel) (Or.inl rfl) H
  · have H := hf1 q
    refine hw_ld (b := 1) (e := 0) (by decide +kernel) rfl ?_
    refine hw_ald (b := 0) (e := 0) (by decide +kernel) rfl (by decide) ?_
    refine hr_gr (w := 191) (b := 0) (e := 11) 0 rfl (by decide +kernel) ?_
    refine hr_len (n := 4) (a0 := 0) (b := 0) (e := 0) 191 rfl (by decide +kernel) ?_
    obtain ⟨hz3, hy3, ht3, hf3⟩ := H
    refine hw_if2 (a0 := 0) (b := 3) (e := 22) (by decide +kernel) hz3 hy3 (fun q => ?_) (fun q => ?_)
    · have H := ht3 q
      refine hw_k (c := (-1 : Int)) (b := 0) (e := 1) (by decide +kernel) ?_
      exact hw_ret (a0 := 0) (e := 0) (by decide +kernel) (Or.inl rfl) H
    · have H := hf3 q
      refine hw_ald (b := 0) (e := 0) (by decide +kernel) rfl (by decide) ?_
      refine hr_gr (w := 191) (b := 0) (e := 11) 0 rfl (by decide +kernel) ?_
      refine hw_ld (b := 1) (e := 0) (by decide +kernel) rfl ?_
      obtain ⟨hl5, hu5, H⟩ := H
      refine hr_al (b := 0) (a0 := 0) (e := 0) (n := 4) (w := φ 191 ((v1).toNat)) 191 rfl (by decide +kernel) (by decide) hl5 hu5 rfl ?_
      refine hw_goto (a0 := 0) (b := 0) (e := 23) (by decide +kernel) ?_
      exact hw_ret (a0 := 0) (e := 0) (by decide +kernel) (Or.inl rfl) H
theorem sf_143_0 {sc : List Int} {d : Nat} {φ : hf_F} {x : Nat} {Q : Option jm_V → hf_F → Nat → Prop} {v1 : Int} (hI : Inv φ) (h1a : (-2147483648 : Int) ≤ v1) (h1b : v1 ≤ 2147483647) (hQ : ∀ (r : Int), True → F_RideLaws_told_0 φ v1 = r → Q (some (0, r)) φ x) : hw sc d 143 0 [(0, (2, 0)), (1, (0, v1))] [] φ x Q := by
  apply sf_143_0_v
  have e0 : F_RideLaws_told_0 φ v1 = _ := rfl
  refine ⟨by unfold hi; omega, fun q1 => ?_, fun q1 => ?_⟩
  · skip
    have e1a := e0.trans (if_pos q1)
    exact hQ (-1 : Int) trivial e1a
  · skip
    have e1b := e0.trans (if_neg q1)
    refine ⟨by unfold hi; omega, by unfold hi; omega, fun q3 => ?_, fun q3 => ?_⟩
    · skip
      have e3a := e1b.trans (if_pos q3)
      exact hQ (-1 : Int) trivial e3a
    · skip
      have e3b := e1b.trans (if_neg q3)
      refine ⟨by omega, by omega, ?_⟩
      exact hQ (φ 191 ((v1).toNat)) trivial e3b
theorem sf_158_0_v {sc : List Int} {d : Nat} {φ : hf_F} {x : Nat} {Q : Option jm_V → hf_F → Nat → Prop} {v1 : Int}
    (H : hi v1 ∧ hi 5 ∧ (¬ v1 = 5 → hi v1 ∧ (v1 < 0 → Q (some (0, (-1 : Int))) φ x) ∧ (¬ v1 < 0 → hi v1 ∧ hi 5 ∧ (5 ≤ v1 → Q (some (0, (-1 : Int))) φ x) ∧ (¬ 5 ≤ v1 → 0 ≤ v1 ∧ v1 < 5 ∧ (Q (some (0, φ 6 ((v1).toNat))) φ x)))) ∧ (¬ (¬ v1 = 5) → Q (some (0, φ 1 2)) φ x)) :
    hw sc d 158 0 [(0, (2, 0)), (1, (0, v1))] [] φ x Q := by
  refine hw_ld (b := 1) (e := 0) (by decide +kernel) rfl ?_
  refine hw_k (c := 5) (b := 0) (e := 1) (by decide +kernel) ?_
  obtain ⟨hz1, hy1, ht1, hf1⟩ := H
  refine hw_if2 (a0 := 0) (b := 1) (e := 13) (by decide +kernel) hz1 hy1 (fun q => ?_) (fun q => ?_)
  · have H := ht1 q
    refine hw_ld (b := 1) (e := 0) (by decide +kernel) rfl ?_
    obtain ⟨hz2, ht2, hf2⟩ := H
    refine hw_if (a0 := 0) (b := 2) (e := 37) (by decide +kernel) hz2 (fun q => ?_) (fun q => ?_)
    · have H := ht2 q
      refine hw_k (c := (-1 : Int)) (b := 0) (e := 1) (by decide +kernel) ?_
      exact hw_ret (a0 := 0) (e := 0) (by decide +kernel) (Or.inl rfl) H
    · have H := hf2 q
      refine hw_ld (b := 1) (e := 0) (by decide +kernel) rfl ?_
      refine hw_k (c := 5) (b := 0) (e := 1) (by decide +kernel) ?_
      obtain ⟨hz4, hy4, ht4, hf4⟩ := H
      refine hw_if2 (a0 := 0) (b := 3) (e := 37) (by decide +kernel) hz4 hy4 (fun q => ?_) (fun q => ?_)
      · have H := ht4 q
        refine hw_k (c := (-1 : Int)) (b := 0) (e := 1) (by decide +kernel) ?_
        exact hw_ret (a0 := 0) (e := 0) (by decide +kernel) (Or.inl rfl) H
      · have H := hf4 q
        refine hw_ald (b := 0) (e := 0) (by decide +kernel) rfl (by decide) ?_
        refine hr_gr (w := 4) (b := 0) (e := 1) 0 rfl (by decide +kernel) ?_
        refine hr_gr (w := 5) (b := 2) (e := 0) 4 rfl (by decide +kernel) ?_
        refine hr_gr (w := 6) (b := 3) (e := 0) 5 rfl (by decide +kernel) ?_
        refine hw_ld (b := 1) (e := 0) (by decide +kernel) rfl ?_
        obtain ⟨hl6, hu6, H⟩ := H
        refine hr_al (b := 0) (a0 := 0) (e := 0) (n := 5) (w := φ 6 ((v1).toNat)) 6 rfl (by decide +kernel) (by decide) hl6 hu6 rfl ?_
        refine hw_goto (a0 := 0) (b := 0) (e := 38) (by decide +kernel) ?_
        exact hw_ret (a0 := 0) (e := 0) (by decide +kernel) (Or.inl rfl) H
  · have H := hf1 q
    refine hw_ald (b := 0) (e := 0) (by decide +kernel) rfl (by decide) ?_
    refine hr_gr (w := 1) (b := 0) (e := 0) 0 rfl (by decide +kernel) ?_
    refine hr_gi (w := φ 1 2) (b := 1) (e := 2) 1 rfl (by decide +kernel) rfl ?_
    exact hw_ret (a0 := 0) (e := 0) (by decide +kernel) (Or.inl rfl) H
theorem sf_158_0 {sc : List Int} {d : Nat} {φ : hf_F} {x : Nat} {Q : Option jm_V → hf_F → Nat → Prop} {v1 : Int} (hI : Inv φ) (h1a : (-2147483648 : Int) ≤ v1) (h1b : v1 ≤ 2147483647) (hQ : ∀ (r : Int), True → F_RideLaws_count_0 φ v1 = r → Q (some (0, r)) φ x) : hw sc d 158 0 [(0, (2, 0)), (1, (0, v1))] [] φ x Q := by
  apply sf_158_0_v
  have e0 : F_RideLaws_count_0 φ v1 = _ := rfl
  refine ⟨by unfold hi; omega, by unfold hi; omega, fun q1 => ?_, fun q1 => ?_⟩
  · skip
    have e1a := e0.trans (if_pos q1)
    refine ⟨by unfold hi; omega, fun q2 => ?_, fun q2 => ?_⟩
    · skip
      have e2a := e1a.trans (if_pos q2)
      exact hQ (-1 : Int) trivial e2a
    · skip
      have e2b := e1a.trans (if_neg q2)
      refine ⟨by unfold hi; omega, by unfold hi; omega, fun q4 => ?_, fun q4 => ?_⟩
      · skip
        have e4a := e2b.trans (if_pos q4)
        exact hQ (-1 : Int) trivial e4a
      · skip
        have e4b := e2b.trans (if_neg q4)
        refine ⟨by omega, by omega, ?_⟩
        have f1 := iv_arh (a := 6) (s := 0) (t := 5) (lo := 0) (u := 8) (z := v1) hI (by decide +kernel) (by omega) (by omega)
        exact hQ (φ 6 ((v1).toNat)) trivial e4b
  · skip
    have e1b := e0.trans (if_neg q1)
    have f2 := iv_at (a := 1) (k := 2) (lo := 0) (u := 940) hI (by decide +kernel)
    exact hQ (φ 1 2) trivial e1b
theorem sf_70_0_k1_3_v {sc : List Int} {d : Nat} {φ : hf_F} {x : Nat} {Q : Option jm_V → hf_F → Nat → Prop} {v2 : Int}
    (H : hi v2 ∧ (v2 < 0 → Q (some (0, 0)) φ x) ∧ (¬ v2 < 0 → hi v2 ∧ hi (φ 6 3) ∧ ((φ 6 3) ≤ v2 → Q (some (0, 0)) φ x) ∧ (¬ (φ 6 3) ≤ v2 → Q (some (0, 1)) φ x))) :
    hw sc d 70 0 [(0, (2, 0)), (1, (0, 3)), (2, (0, v2))] [] φ x Q := by
  refine hw_ld (b := 2) (e := 0) (by decide +kernel) rfl ?_
  obtain ⟨hz1, ht1, hf1⟩ := H
  refine hw_if (a0 := 0) (b := 2) (e := 24) (by decide +kernel) hz1 (fun q => ?_) (fun q => ?_)
  · have H := ht1 q
    refine hw_k (c := 0) (b := 0) (e := 1) (by decide +kernel) ?_
    exact hw_ret (a0 := 0) (e := 1) (by decide +kernel) (Or.inr ⟨rfl, by decide⟩) H
  · have H := hf1 q
    refine hw_ld (b := 2) (e := 0) (by decide +kernel) rfl ?_
    refine hw_ald (b := 0) (e := 0) (by decide +kernel) rfl (by decide) ?_
    refine hr_gr (w := 4) (b := 0) (e := 1) 0 rfl (by decide +kernel) ?_
    refine hr_gr (w := 5) (b := 2) (e := 0) 4 rfl (by decide +kernel) ?_
    refine hr_gr (w := 6) (b := 3) (e := 0) 5 rfl (by decide +kernel) ?_
    refine hw_ld (b := 1) (e := 0) (by decide +kernel) rfl ?_
    refine hr_al (b := 0) (a0 := 0) (e := 0) (n := 5) (w := φ 6 3) 6 rfl (by decide +kernel) (by decide) (by decide) (by decide) rfl ?_
    obtain ⟨hz3, hy3, ht3, hf3⟩ := H
    refine hw_if2 (a0 := 0) (b := 3) (e := 24) (by decide +kernel) hz3 hy3 (fun q => ?_) (fun q => ?_)
    · have H := ht3 q
      refine hw_k (c := 0) (b := 0) (e := 1) (by decide +kernel) ?_
      exact hw_ret (a0 := 0) (e := 1) (by decide +kernel) (Or.inr ⟨rfl, by decide⟩) H
    · have H := hf3 q
      refine hw_k (c := 1) (b := 0) (e := 1) (by decide +kernel) ?_
      refine hw_goto (a0 := 0) (b := 0) (e := 25) (by decide +kernel) ?_
      exact hw_ret (a0 := 0) (e := 1) (by decide +kernel) (Or.inr ⟨rfl, by decide⟩) H
theorem sf_70_0_k1_3 {sc : List Int} {d : Nat} {φ : hf_F} {x : Nat} {Q : Option jm_V → hf_F → Nat → Prop} {v2 : Int} (hI : Inv φ) (h2a : (-2147483648 : Int) ≤ v2) (h2b : v2 ≤ 2147483647) (hQ : ∀ (r : Int), 0 ≤ r ∧ r ≤ 1 ∧ (r = 1 → 0 ≤ v2 ∧ v2 < φ 6 3 ∧ φ 6 3 ≤ 6) → F_RideLaws_has_0_k1_3 φ v2 = r → Q (some (0, r)) φ x) : hw sc d 70 0 [(0, (2, 0)), (1, (0, 3)), (2, (0, v2))] [] φ x Q := by
  apply sf_70_0_k1_3_v
  have e0 : F_RideLaws_has_0_k1_3 φ v2 = _ := rfl
  refine ⟨by unfold hi; omega, fun q1 => ?_, fun q1 => ?_⟩
  · skip
    have e1a := e0.trans (if_pos q1)
    have f1 := iv_at (a := 6) (k := 3) (lo := 0) (u := 6) hI (by decide +kernel)
    exact hQ 0 ⟨by omega, by omega, by omega⟩ e1a
  · skip
    have e1b := e0.trans (if_neg q1)
    have f2 := iv_at (a := 6) (k := 3) (lo := 0) (u := 6) hI (by decide +kernel)
    refine ⟨by unfold hi; omega, by unfold hi; omega, fun q3 => ?_, fun q3 => ?_⟩
    · skip
      have e3a := e1b.trans (if_pos q3)
      exact hQ 0 ⟨by omega, by omega, by omega⟩ e3a
    · skip
      have e3b := e1b.trans (if_neg q3)
      exact hQ 1 ⟨by omega, by omega, by omega⟩ e3b
theorem sf_71_17_v {sc : List Int} {d : Nat} {φ : hf_F} {x : Nat} {Q : Option jm_V → hf_F → Nat → Prop} {v1 v2 : Int}
    (H : 0 ≤ ((v1 * 6) + v2) ∧ ((v1 * 6) + v2) < 36 ∧ (Q (some (0, φ 22 (((v1 * 6) + v2).toNat))) φ x)) :
    hw sc d 71 0 [(0, (2, 17)), (1, (0, v1)), (2, (0, v2))] [] φ x Q := by
  refine hw_ald (b := 0) (e := 0) (by decide +kernel) rfl (by decide) ?_
  refine hr_gr (w := 22) (b := 4) (e := 10) 17 rfl (by decide +kernel) ?_
  refine hw_ld (b := 1) (e := 0) (by decide +kernel) rfl ?_
  refine hw_k (c := 6) (b := 1) (e := 2) (by decide +kernel) ?_
  refine hw_bin (w := v1 * 6) (a0 := 0) (b := 2) (e := 0) (by decide +kernel) rfl ?_
  refine hw_ld (b := 2) (e := 0) (by decide +kernel) rfl ?_
  refine hw_bin (w := (v1 * 6) + v2) (a0 := 0) (b := 0) (e := 0) (by decide +kernel) rfl ?_
  obtain ⟨hl1, hu1, H⟩ := H
  refine hr_al (b := 0) (a0 := 0) (e := 0) (n := 36) (w := φ 22 (((v1 * 6) + v2).toNat)) 22 rfl (by decide +kernel) (by decide) hl1 hu1 rfl ?_
  exact hw_ret (a0 := 0) (e := 0) (by decide +kernel) (Or.inl rfl) H
theorem sf_71_17 {sc : List Int} {d : Nat} {φ : hf_F} {x : Nat} {Q : Option jm_V → hf_F → Nat → Prop} {v1 v2 : Int} (hI : Inv φ) (h1a : 0 ≤ v1) (h1b : v1 ≤ 5) (h2a : 0 ≤ v2) (h2b : v2 ≤ 5) (hQ : ∀ (r : Int), 0 ≤ r ∧ r ≤ 7 → F_State_rollWord_17 φ v1 v2 = r → Q (some (0, r)) φ x) : hw sc d 71 0 [(0, (2, 17)), (1, (0, v1)), (2, (0, v2))] [] φ x Q := by
  apply sf_71_17_v
  have e0 : F_State_rollWord_17 φ v1 v2 = _ := rfl
  refine ⟨by omega, by omega, ?_⟩
  have f1 := iv_ar (a := 22) (s := 0) (t := 36) (lo := 0) (u := 7) (z := (v1 * 6) + v2) hI (by decide +kernel) (by omega) (by omega)
  exact hQ (φ 22 (((v1 * 6) + v2).toNat)) ⟨by omega, by omega⟩ e0
theorem sf_69_0_v {sc : List Int} {d : Nat} {φ : hf_F} {x : Nat} {Q : Option jm_V → hf_F → Nat → Prop} {v1 v2 : Int}
    (H : hw sc d 70 0 [(0, (2, 0)), (1, (0, 3)), (2, (0, v1))] [] φ x (fun r ψ1 y1 => y1 = x ∧ φ = ψ1 ∧ (∃ z1 : Int, r = some (0, z1) ∧ (hi z1 ∧ (z1 = 0 → Q (some (0, (-1 : Int))) φ x) ∧ (¬ z1 = 0 → hi v2 ∧ (v2 < 0 → Q (some (0, (-1 : Int))) φ x) ∧ (¬ v2 < 0 → 0 ≤ v1 ∧ v1 < 6 ∧ (hi v2 ∧ hi (φ 21 ((v1).toNat)) ∧ (v2 < (φ 21 ((v1).toNat)) → hw sc d 71 0 [(0, (2, 17)), (1, (0, v1)), (2, (0, v2))] [] φ x (fun r ψ8 y8 => y8 = x ∧ φ = ψ8 ∧ (∃ z8 : Int, r = some (0, z8) ∧ (Q (some (0, z8)) φ x)))) ∧ (¬ v2 < (φ 21 ((v1).toNat)) → Q (some (0, (-1 : Int))) φ x)))))))) :
    hw sc (d + 1) 69 0 [(0, (2, 0)), (1, (0, v1)), (2, (0, v2))] [] φ x Q := by
  refine hw_ald (b := 0) (e := 0) (by decide +kernel) rfl (by decide) ?_
  refine hw_k (c := 3) (b := 0) (e := 1) (by decide +kernel) ?_
  refine hw_ld (b := 1) (e := 0) (by decide +kernel) rfl ?_
  refine hr_call (a0 := 10) (b := 70) (e := 3) (nl := 3) (As := [(0, 3), (0, v1)]) (R := []) 0 rfl (by decide +kernel) rfl rfl (Nat.le_of_ble_eq_true rfl) (Nat.le_of_ble_eq_true rfl) ?_
  refine hw_mono H ?_
  rintro r ψ1 y1 ⟨hyx, hψx, z1, hr, H⟩
  subst hyx
  subst hψx
  subst hr
  refine ⟨hne0, ?_⟩
  show hw sc (d + 1) 69 6 [(0, (2, 0)), (1, (0, v1)), (2, (0, v2))] [(0, z1)] φ y1 Q
  obtain ⟨hz2, ht2, hf2⟩ := H
  refine hw_if (a0 := 0) (b := 0) (e := 29) (by decide +kernel) hz2 (fun q => ?_) (fun q => ?_)
  · have H := ht2 q
    refine hw_k (c := (-1 : Int)) (b := 0) (e := 1) (by decide +kernel) ?_
    exact hw_ret (a0 := 0) (e := 0) (by decide +kernel) (Or.inl rfl) H
  · have H := hf2 q
    refine hw_ld (b := 2) (e := 0) (by decide +kernel) rfl ?_
    obtain ⟨hz4, ht4, hf4⟩ := H
    refine hw_if (a0 := 0) (b := 2) (e := 29) (by decide +kernel) hz4 (fun q => ?_) (fun q => ?_)
    · have H := ht4 q
      refine hw_k (c := (-1 : Int)) (b := 0) (e := 1) (by decide +kernel) ?_
      exact hw_ret (a0 := 0) (e := 0) (by decide +kernel) (Or.inl rfl) H
    · have H := hf4 q
      refine hw_ld (b := 2) (e := 0) (by decide +kernel) rfl ?_
      refine hw_ald (b := 0) (e := 0) (by decide +kernel) rfl (by decide) ?_
      refine hr_gr (w := 4) (b := 0) (e := 1) 0 rfl (by decide +kernel) ?_
      refine hr_gr (w := 17) (b := 2) (e := 1) 4 rfl (by decide +kernel) ?_
      refine hr_gr (w := 21) (b := 4) (e := 9) 17 rfl (by decide +kernel) ?_
      refine hw_ld (b := 1) (e := 0) (by decide +kernel) rfl ?_
      obtain ⟨hl6, hu6, H⟩ := H
      refine hr_al (b := 0) (a0 := 0) (e := 0) (n := 6) (w := φ 21 ((v1).toNat)) 21 rfl (by decide +kernel) (by decide) hl6 hu6 rfl ?_
      obtain ⟨hz7, hy7, ht7, hf7⟩ := H
      refine hw_if2 (a0 := 0) (b := 2) (e := 31) (by decide +kernel) hz7 hy7 (fun q => ?_) (fun q => ?_)
      · have H := ht7 q
        refine hw_ald (b := 0) (e := 0) (by decide +kernel) rfl (by decide) ?_
        refine hr_gr (w := 4) (b := 0) (e := 1) 0 rfl (by decide +kernel) ?_
        refine hr_gr (w := 17) (b := 2) (e := 1) 4 rfl (by decide +kernel) ?_
        refine hw_ld (b := 1) (e := 0) (by decide +kernel) rfl ?_
        refine hw_ld (b := 2) (e := 0) (by decide +kernel) rfl ?_
        refine hr_call (a0 := 14) (b := 71) (e := 3) (nl := 3) (As := [(0, v1), (0, v2)]) (R := []) 17 rfl (by decide +kernel) rfl rfl (Nat.le_of_ble_eq_true rfl) (Nat.le_of_ble_eq_true rfl) ?_
        refine hw_mono H ?_
        rintro r ψ8 y8 ⟨hyx, hψx, z8, hr, H⟩
        subst hyx
        subst hψx
        subst hr
        refine ⟨hne0, ?_⟩
        show hw sc (d + 1) 69 43 [(0, (2, 0)), (1, (0, v1)), (2, (0, v2))] [(0, z8)] φ y8 Q
        exact hw_ret (a0 := 0) (e := 0) (by decide +kernel) (Or.inl rfl) H
      · have H := hf7 q
        refine hw_k (c := (-1 : Int)) (b := 0) (e := 1) (by decide +kernel) ?_
        exact hw_ret (a0 := 0) (e := 0) (by decide +kernel) (Or.inl rfl) H
theorem sf_69_0 {sc : List Int} {d : Nat} {φ : hf_F} {x : Nat} {Q : Option jm_V → hf_F → Nat → Prop} {v1 v2 : Int} (hI : Inv φ) (h1a : (-2147483648 : Int) ≤ v1) (h1b : v1 ≤ 2147483647) (h2a : (-2147483648 : Int) ≤ v2) (h2b : v2 ≤ 2147483647) (hQ : ∀ (r : Int), True → F_RideLaws_roll_0 φ v1 v2 = r → Q (some (0, r)) φ x) : hw sc (d + 1) 69 0 [(0, (2, 0)), (1, (0, v1)), (2, (0, v2))] [] φ x Q := by
  apply sf_69_0_v
  have e0 : F_RideLaws_roll_0 φ v1 v2 = _ := rfl
  refine sf_70_0_k1_3 (φ := φ) hI (by omega) (by omega) (fun z1 hp1 hE1 => ⟨rfl, rfl, z1, rfl, ?_⟩)
  have e1 := e0.trans (bnp_e hE1)
  have f1 := iv_at (a := 6) (k := 3) (lo := 0) (u := 6) hI (by decide +kernel)
  refine ⟨by unfold hi; omega, fun q2 => ?_, fun q2 => ?_⟩
  · skip
    have e2a := e1.trans (if_pos q2)
    exact hQ (-1 : Int) trivial e2a
  · skip
    have e2b := e1.trans (if_neg q2)
    refine ⟨by unfold hi; omega, fun q4 => ?_, fun q4 => ?_⟩
    · skip
      have e4a := e2b.trans (if_pos q4)
      exact hQ (-1 : Int) trivial e4a
    · skip
      have e4b := e2b.trans (if_neg q4)
      refine ⟨by omega, by omega, ?_⟩
      have f2 := iv_ar (a := 21) (s := 0) (t := 6) (lo := 0) (u := 6) (z := v1) hI (by decide +kernel) (by omega) (by omega)
      refine ⟨by unfold hi; omega, by unfold hi; omega, fun q7 => ?_, fun q7 => ?_⟩
      · skip
        have e7a := e4b.trans (if_pos q7)
        refine sf_71_17 (φ := φ) hI (by omega) (by omega) (by omega) (by omega) (fun z8 hp8 hE8 => ⟨rfl, rfl, z8, rfl, ?_⟩)
        have e8 := e7a.trans (bnp_e hE8)
        exact hQ z8 trivial e8
      · skip
        have e7b := e4b.trans (if_neg q7)
        exact hQ (-1 : Int) trivial e7b
theorem sf_70_0_k1_1_v {sc : List Int} {d : Nat} {φ : hf_F} {x : Nat} {Q : Option jm_V → hf_F → Nat → Prop} {v2 : Int}
    (H : hi v2 ∧ (v2 < 0 → Q (some (0, 0)) φ x) ∧ (¬ v2 < 0 → hi v2 ∧ hi (φ 6 1) ∧ ((φ 6 1) ≤ v2 → Q (some (0, 0)) φ x) ∧ (¬ (φ 6 1) ≤ v2 → Q (some (0, 1)) φ x))) :
    hw sc d 70 0 [(0, (2, 0)), (1, (0, 1)), (2, (0, v2))] [] φ x Q := by
  refine hw_ld (b := 2) (e := 0) (by decide +kernel) rfl ?_
  obtain ⟨hz1, ht1, hf1⟩ := H
  refine hw_if (a0 := 0) (b := 2) (e := 24) (by decide +kernel) hz1 (fun q => ?_) (fun q => ?_)
  · have H := ht1 q
    refine hw_k (c := 0) (b := 0) (e := 1) (by decide +kernel) ?_
    exact hw_ret (a0 := 0) (e := 1) (by decide +kernel) (Or.inr ⟨rfl, by decide⟩) H
  · have H := hf1 q
    refine hw_ld (b := 2) (e := 0) (by decide +kernel) rfl ?_
    refine hw_ald (b := 0) (e := 0) (by decide +kernel) rfl (by decide) ?_
    refine hr_gr (w := 4) (b := 0) (e := 1) 0 rfl (by decide +kernel) ?_
    refine hr_gr (w := 5) (b := 2) (e := 0) 4 rfl (by decide +kernel) ?_
    refine hr_gr (w := 6) (b := 3) (e := 0) 5 rfl (by decide +kernel) ?_
    refine hw_ld (b := 1) (e := 0) (by decide +kernel) rfl ?_
    refine hr_al (b := 0) (a0 := 0) (e := 0) (n := 5) (w := φ 6 1) 6 rfl (by decide +kernel) (by decide) (by decide) (by decide) rfl ?_
    obtain ⟨hz3, hy3, ht3, hf3⟩ := H
    refine hw_if2 (a0 := 0) (b := 3) (e := 24) (by decide +kernel) hz3 hy3 (fun q => ?_) (fun q => ?_)
    · have H := ht3 q
      refine hw_k (c := 0) (b := 0) (e := 1) (by decide +kernel) ?_
      exact hw_ret (a0 := 0) (e := 1) (by decide +kernel) (Or.inr ⟨rfl, by decide⟩) H
    · have H := hf3 q
      refine hw_k (c := 1) (b := 0) (e := 1) (by decide +kernel) ?_
      refine hw_goto (a0 := 0) (b := 0) (e := 25) (by decide +kernel) ?_
      exact hw_ret (a0 := 0) (e := 1) (by decide +kernel) (Or.inr ⟨rfl, by decide⟩) H
theorem sf_70_0_k1_1 {sc : List Int} {d : Nat} {φ : hf_F} {x : Nat} {Q : Option jm_V → hf_F → Nat → Prop} {v2 : Int} (hI : Inv φ) (h2a : (-2147483648 : Int) ≤ v2) (h2b : v2 ≤ 2147483647) (hQ : ∀ (r : Int), 0 ≤ r ∧ r ≤ 1 ∧ (r = 1 → 0 ≤ v2 ∧ v2 < φ 6 1 ∧ φ 6 1 ≤ 8) → F_RideLaws_has_0_k1_1 φ v2 = r → Q (some (0, r)) φ x) : hw sc d 70 0 [(0, (2, 0)), (1, (0, 1)), (2, (0, v2))] [] φ x Q := by
  apply sf_70_0_k1_1_v
  have e0 : F_RideLaws_has_0_k1_1 φ v2 = _ := rfl
  refine ⟨by unfold hi; omega, fun q1 => ?_, fun q1 => ?_⟩
  · skip
    have e1a := e0.trans (if_pos q1)
    have f1 := iv_at (a := 6) (k := 1) (lo := 0) (u := 8) hI (by decide +kernel)
    exact hQ 0 ⟨by omega, by omega, by omega⟩ e1a
  · skip
    have e1b := e0.trans (if_neg q1)
    have f2 := iv_at (a := 6) (k := 1) (lo := 0) (u := 8) hI (by decide +kernel)
    refine ⟨by unfold hi; omega, by unfold hi; omega, fun q3 => ?_, fun q3 => ?_⟩
    · skip
      have e3a := e1b.trans (if_pos q3)
      exact hQ 0 ⟨by omega, by omega, by omega⟩ e3a
    · skip
      have e3b := e1b.trans (if_neg q3)
      exact hQ 1 ⟨by omega, by omega, by omega⟩ e3b
theorem sf_72_0_v {sc : List Int} {d : Nat} {φ : hf_F} {x : Nat} {Q : Option jm_V → hf_F → Nat → Prop} {v1 v2 : Int}
    (H : hw sc d 70 0 [(0, (2, 0)), (1, (0, 1)), (2, (0, v1))] [] φ x (fun r ψ1 y1 => y1 = x ∧ φ = ψ1 ∧ (∃ z1 : Int, r = some (0, z1) ∧ (hi z1 ∧ (¬ z1 = 0 → hi v2 ∧ (v2 = 0 → 0 ≤ v1 ∧ v1 < 8 ∧ (Q (some (0, φ 10 ((v1).toNat))) φ x)) ∧ (v2 = 1 → 0 ≤ v1 ∧ v1 < 8 ∧ (Q (some (0, φ 18 ((v1).toNat))) φ x)) ∧ (v2 = 2 → 0 ≤ v1 ∧ v1 < 8 ∧ (Q (some (0, φ 19 ((v1).toNat))) φ x)) ∧ ((v2 < 0 ∨ 3 ≤ v2) → Q (some (0, (-1 : Int))) φ x)) ∧ (¬ (¬ z1 = 0) → Q (some (0, (-1 : Int))) φ x))))) :
    hw sc (d + 1) 72 0 [(0, (2, 0)), (1, (0, v1)), (2, (0, v2))] [] φ x Q := by
  refine hw_ald (b := 0) (e := 0) (by decide +kernel) rfl (by decide) ?_
  refine hw_k (c := 1) (b := 0) (e := 1) (by decide +kernel) ?_
  refine hw_ld (b := 1) (e := 0) (by decide +kernel) rfl ?_
  refine hr_call (a0 := 10) (b := 70) (e := 3) (nl := 3) (As := [(0, 1), (0, v1)]) (R := []) 0 rfl (by decide +kernel) rfl rfl (Nat.le_of_ble_eq_true rfl) (Nat.le_of_ble_eq_true rfl) ?_
  refine hw_mono H ?_
  rintro r ψ1 y1 ⟨hyx, hψx, z1, hr, H⟩
  subst hyx
  subst hψx
  subst hr
  refine ⟨hne0, ?_⟩
  show hw sc (d + 1) 72 6 [(0, (2, 0)), (1, (0, v1)), (2, (0, v2))] [(0, z1)] φ y1 Q
  obtain ⟨hz2, ht2, hf2⟩ := H
  refine hw_if (a0 := 0) (b := 1) (e := 11) (by decide +kernel) hz2 (fun q => ?_) (fun q => ?_)
  · have H := ht2 q
    refine hw_ld (b := 2) (e := 0) (by decide +kernel) rfl ?_
    obtain ⟨hz3, H⟩ := H
    refine hr_tsw (T := [40, 53, 66]) (lo := 0) (nn := 3) (b := 79) (e := 1) (by decide +kernel) rfl hz3 ?_ ?_
    · intro q
      have H := H.2.2.2 q
      refine hw_k (c := (-1 : Int)) (b := 0) (e := 1) (by decide +kernel) ?_
      exact hw_ret (a0 := 0) (e := 0) (by decide +kernel) (Or.inl rfl) H
    · intro kq tq htq hzq
      match kq, htq, hzq with
      | 0, htq, hzq =>
        cases htq
        have H := H.1 (by omega)
        refine hw_ald (b := 0) (e := 0) (by decide +kernel) rfl (by decide) ?_
        refine hr_gr (w := 4) (b := 0) (e := 1) 0 rfl (by decide +kernel) ?_
        refine hr_gr (w := 5) (b := 2) (e := 0) 4 rfl (by decide +kernel) ?_
        refine hr_gr (w := 10) (b := 3) (e := 4) 5 rfl (by decide +kernel) ?_
        refine hw_ld (b := 1) (e := 0) (by decide +kernel) rfl ?_
        obtain ⟨hl4, hu4, H⟩ := H
        refine hr_al (b := 0) (a0 := 0) (e := 0) (n := 8) (w := φ 10 ((v1).toNat)) 10 rfl (by decide +kernel) (by decide) hl4 hu4 rfl ?_
        exact hw_ret (a0 := 0) (e := 0) (by decide +kernel) (Or.inl rfl) H
      | 1, htq, hzq =>
        cases htq
        have H := H.2.1 (by omega)
        refine hw_ald (b := 0) (e := 0) (by decide +kernel) rfl (by decide) ?_
        refine hr_gr (w := 4) (b := 0) (e := 1) 0 rfl (by decide +kernel) ?_
        refine hr_gr (w := 17) (b := 2) (e := 1) 4 rfl (by decide +kernel) ?_
        refine hr_gr (w := 18) (b := 4) (e := 6) 17 rfl (by decide +kernel) ?_
        refine hw_ld (b := 1) (e := 0) (by decide +kernel) rfl ?_
        obtain ⟨hl6, hu6, H⟩ := H
        refine hr_al (b := 0) (a0 := 0) (e := 0) (n := 8) (w := φ 18 ((v1).toNat)) 18 rfl (by decide +kernel) (by decide) hl6 hu6 rfl ?_
        exact hw_ret (a0 := 0) (e := 0) (by decide +kernel) (Or.inl rfl) H
      | 2, htq, hzq =>
        cases htq
        have H := H.2.2.1 (by omega)
        refine hw_ald (b := 0) (e := 0) (by decide +kernel) rfl (by decide) ?_
        refine hr_gr (w := 4) (b := 0) (e := 1) 0 rfl (by decide +kernel) ?_
        refine hr_gr (w := 17) (b := 2) (e := 1) 4 rfl (by decide +kernel) ?_
        refine hr_gr (w := 19) (b := 4) (e := 7) 17 rfl (by decide +kernel) ?_
        refine hw_ld (b := 1) (e := 0) (by decide +kernel) rfl ?_
        obtain ⟨hl8, hu8, H⟩ := H
        refine hr_al (b := 0) (a0 := 0) (e := 0) (n := 8) (w := φ 19 ((v1).toNat)) 19 rfl (by decide +kernel) (by decide) hl8 hu8 rfl ?_
        exact hw_ret (a0 := 0) (e := 0) (by decide +kernel) (Or.inl rfl) H
      | kq + 3, htq, _ => cases htq
  · have H := hf2 q
    refine hw_k (c := (-1 : Int)) (b := 0) (e := 1) (by decide +kernel) ?_
    exact hw_ret (a0 := 0) (e := 0) (by decide +kernel) (Or.inl rfl) H
theorem sf_72_0 {sc : List Int} {d : Nat} {φ : hf_F} {x : Nat} {Q : Option jm_V → hf_F → Nat → Prop} {v1 v2 : Int} (hI : Inv φ) (h1a : (-2147483648 : Int) ≤ v1) (h1b : v1 ≤ 2147483647) (h2a : (-2147483648 : Int) ≤ v2) (h2b : v2 ≤ 2147483647) (hQ : ∀ (r : Int), True → F_RideLaws_seat_0 φ v1 v2 = r → Q (some (0, r)) φ x) : hw sc (d + 1) 72 0 [(0, (2, 0)), (1, (0, v1)), (2, (0, v2))] [] φ x Q := by
  apply sf_72_0_v
  have e0 : F_RideLaws_seat_0 φ v1 v2 = _ := rfl
  refine sf_70_0_k1_1 (φ := φ) hI (by omega) (by omega) (fun z1 hp1 hE1 => ⟨rfl, rfl, z1, rfl, ?_⟩)
  have e1 := e0.trans (bnp_e hE1)
  have f1 := iv_at (a := 6) (k := 1) (lo := 0) (u := 8) hI (by decide +kernel)
  refine ⟨by unfold hi; omega, fun q2 => ?_, fun q2 => ?_⟩
  · skip
    have e2a := e1.trans (if_pos q2)
    refine ⟨by unfold hi; omega, fun q3 => ?_, fun q3 => ?_, fun q3 => ?_, fun q3 => ?_⟩
    · skip
      have e3_0 := (e2a).trans (if_pos q3)
      refine ⟨by omega, by omega, ?_⟩
      have f2 := iv_ar (a := 10) (s := 0) (t := 8) (lo := 0) (u := 2) (z := v1) hI (by decide +kernel) (by omega) (by omega)
      exact hQ (φ 10 ((v1).toNat)) trivial e3_0
    · skip
      have e3_1 := ((e2a).trans (if_neg (by omega))).trans (if_pos q3)
      refine ⟨by omega, by omega, ?_⟩
      exact hQ (φ 18 ((v1).toNat)) trivial e3_1
    · skip
      have e3_2 := (((e2a).trans (if_neg (by omega))).trans (if_neg (by omega))).trans (if_pos q3)
      refine ⟨by omega, by omega, ?_⟩
      have f3 := iv_ar (a := 19) (s := 0) (t := 8) (lo := (-1 : Int)) (u := 5) (z := v1) hI (by decide +kernel) (by omega) (by omega)
      exact hQ (φ 19 ((v1).toNat)) trivial e3_2
    · skip
      have e3_3 := (((e2a).trans (if_neg (by omega))).trans (if_neg (by omega))).trans (if_neg (by omega))
      exact hQ (-1 : Int) trivial e3_3
  · skip
    have e2b := e1.trans (if_neg q2)
    exact hQ (-1 : Int) trivial e2b
theorem sf_70_0_k1_4_v {sc : List Int} {d : Nat} {φ : hf_F} {x : Nat} {Q : Option jm_V → hf_F → Nat → Prop} {v2 : Int}
    (H : hi v2 ∧ (v2 < 0 → Q (some (0, 0)) φ x) ∧ (¬ v2 < 0 → hi v2 ∧ hi (φ 6 4) ∧ ((φ 6 4) ≤ v2 → Q (some (0, 0)) φ x) ∧ (¬ (φ 6 4) ≤ v2 → Q (some (0, 1)) φ x))) :
    hw sc d 70 0 [(0, (2, 0)), (1, (0, 4)), (2, (0, v2))] [] φ x Q := by
  refine hw_ld (b := 2) (e := 0) (by decide +kernel) rfl ?_
  obtain ⟨hz1, ht1, hf1⟩ := H
  refine hw_if (a0 := 0) (b := 2) (e := 24) (by decide +kernel) hz1 (fun q => ?_) (fun q => ?_)
  · have H := ht1 q
    refine hw_k (c := 0) (b := 0) (e := 1) (by decide +kernel) ?_
    exact hw_ret (a0 := 0) (e := 1) (by decide +kernel) (Or.inr ⟨rfl, by decide⟩) H
  · have H := hf1 q
    refine hw_ld (b := 2) (e := 0) (by decide +kernel) rfl ?_
    refine hw_ald (b := 0) (e := 0) (by decide +kernel) rfl (by decide) ?_
    refine hr_gr (w := 4) (b := 0) (e := 1) 0 rfl (by decide +kernel) ?_
    refine hr_gr (w := 5) (b := 2) (e := 0) 4 rfl (by decide +kernel) ?_
    refine hr_gr (w := 6) (b := 3) (e := 0) 5 rfl (by decide +kernel) ?_
    refine hw_ld (b := 1) (e := 0) (by decide +kernel) rfl ?_
    refine hr_al (b := 0) (a0 := 0) (e := 0) (n := 5) (w := φ 6 4) 6 rfl (by decide +kernel) (by decide) (by decide) (by decide) rfl ?_
    obtain ⟨hz3, hy3, ht3, hf3⟩ := H
    refine hw_if2 (a0 := 0) (b := 3) (e := 24) (by decide +kernel) hz3 hy3 (fun q => ?_) (fun q => ?_)
    · have H := ht3 q
      refine hw_k (c := 0) (b := 0) (e := 1) (by decide +kernel) ?_
      exact hw_ret (a0 := 0) (e := 1) (by decide +kernel) (Or.inr ⟨rfl, by decide⟩) H
    · have H := hf3 q
      refine hw_k (c := 1) (b := 0) (e := 1) (by decide +kernel) ?_
      refine hw_goto (a0 := 0) (b := 0) (e := 25) (by decide +kernel) ?_
      exact hw_ret (a0 := 0) (e := 1) (by decide +kernel) (Or.inr ⟨rfl, by decide⟩) H
theorem sf_70_0_k1_4 {sc : List Int} {d : Nat} {φ : hf_F} {x : Nat} {Q : Option jm_V → hf_F → Nat → Prop} {v2 : Int} (hI : Inv φ) (h2a : (-2147483648 : Int) ≤ v2) (h2b : v2 ≤ 2147483647) (hQ : ∀ (r : Int), 0 ≤ r ∧ r ≤ 1 ∧ (r = 1 → 0 ≤ v2 ∧ v2 < φ 6 4 ∧ φ 6 4 ≤ 8) → F_RideLaws_has_0_k1_4 φ v2 = r → Q (some (0, r)) φ x) : hw sc d 70 0 [(0, (2, 0)), (1, (0, 4)), (2, (0, v2))] [] φ x Q := by
  apply sf_70_0_k1_4_v
  have e0 : F_RideLaws_has_0_k1_4 φ v2 = _ := rfl
  refine ⟨by unfold hi; omega, fun q1 => ?_, fun q1 => ?_⟩
  · skip
    have e1a := e0.trans (if_pos q1)
    have f1 := iv_at (a := 6) (k := 4) (lo := 0) (u := 8) hI (by decide +kernel)
    exact hQ 0 ⟨by omega, by omega, by omega⟩ e1a
  · skip
    have e1b := e0.trans (if_neg q1)
    have f2 := iv_at (a := 6) (k := 4) (lo := 0) (u := 8) hI (by decide +kernel)
    refine ⟨by unfold hi; omega, by unfold hi; omega, fun q3 => ?_, fun q3 => ?_⟩
    · skip
      have e3a := e1b.trans (if_pos q3)
      exact hQ 0 ⟨by omega, by omega, by omega⟩ e3a
    · skip
      have e3b := e1b.trans (if_neg q3)
      exact hQ 1 ⟨by omega, by omega, by omega⟩ e3b
theorem sf_74_17_v {sc : List Int} {d : Nat} {φ : hf_F} {x : Nat} {Q : Option jm_V → hf_F → Nat → Prop} {v1 : Int}
    (H : hi (hb_and (hb_shr (φ 17 3) v1) 1) ∧ ((hb_and (hb_shr (φ 17 3) v1) 1) = 0 → Q (some (0, 0)) φ x) ∧ (¬ (hb_and (hb_shr (φ 17 3) v1) 1) = 0 → Q (some (0, 1)) φ x)) :
    hw sc d 74 0 [(0, (2, 17)), (1, (0, v1))] [] φ x Q := by
  refine hw_ald (b := 0) (e := 0) (by decide +kernel) rfl (by decide) ?_
  refine hr_gi (w := φ 17 3) (b := 4) (e := 3) 17 rfl (by decide +kernel) rfl ?_
  refine hw_ld (b := 1) (e := 0) (by decide +kernel) rfl ?_
  refine hw_bin (w := hb_shr (φ 17 3) v1) (a0 := 0) (b := 7) (e := 0) (by decide +kernel) rfl ?_
  refine hw_k (c := 1) (b := 0) (e := 1) (by decide +kernel) ?_
  refine hw_bin (w := hb_and (hb_shr (φ 17 3) v1) 1) (a0 := 0) (b := 3) (e := 0) (by decide +kernel) rfl ?_
  obtain ⟨hz1, ht1, hf1⟩ := H
  refine hw_if (a0 := 0) (b := 0) (e := 15) (by decide +kernel) hz1 (fun q => ?_) (fun q => ?_)
  · have H := ht1 q
    refine hw_k (c := 0) (b := 0) (e := 1) (by decide +kernel) ?_
    exact hw_ret (a0 := 0) (e := 1) (by decide +kernel) (Or.inr ⟨rfl, by decide⟩) H
  · have H := hf1 q
    refine hw_k (c := 1) (b := 0) (e := 1) (by decide +kernel) ?_
    refine hw_goto (a0 := 0) (b := 0) (e := 16) (by decide +kernel) ?_
    exact hw_ret (a0 := 0) (e := 1) (by decide +kernel) (Or.inr ⟨rfl, by decide⟩) H
theorem sf_74_17 {sc : List Int} {d : Nat} {φ : hf_F} {x : Nat} {Q : Option jm_V → hf_F → Nat → Prop} {v1 : Int} (hI : Inv φ) (h1a : 0 ≤ v1) (h1b : v1 ≤ 7) (hQ : ∀ (r : Int), 0 ≤ r ∧ r ≤ 1 → F_State_isHolding_17 φ v1 = r → Q (some (0, r)) φ x) : hw sc d 74 0 [(0, (2, 17)), (1, (0, v1))] [] φ x Q := by
  apply sf_74_17_v
  have e0 : F_State_isHolding_17 φ v1 = _ := rfl
  have f1 := iv_at (a := 17) (k := 3) (lo := (-2147483648 : Int)) (u := 2147483647) hI (by decide +kernel)
  have f2 := hr_shr0 (φ 17 3) v1
  have f3 := hr_shr (φ 17 3) v1
  have f4 := hr_and0 (hb_shr (φ 17 3) v1) 1
  have f5 := hr_and1 (hb_shr (φ 17 3) v1)
  have f6 := hr_and (hb_shr (φ 17 3) v1) 1
  refine ⟨by unfold hi; omega, fun q1 => ?_, fun q1 => ?_⟩
  · skip
    have e1a := e0.trans (if_pos q1)
    exact hQ 0 ⟨by omega, by omega⟩ e1a
  · skip
    have e1b := e0.trans (if_neg q1)
    exact hQ 1 ⟨by omega, by omega⟩ e1b
theorem sf_73_0_v {sc : List Int} {d : Nat} {φ : hf_F} {x : Nat} {Q : Option jm_V → hf_F → Nat → Prop} {v1 v2 : Int}
    (H : hw sc d 70 0 [(0, (2, 0)), (1, (0, 4)), (2, (0, v1))] [] φ x (fun r ψ1 y1 => y1 = x ∧ φ = ψ1 ∧ (∃ z1 : Int, r = some (0, z1) ∧ (hi z1 ∧ (¬ z1 = 0 → hi v2 ∧ (v2 = 0 → 0 ≤ v1 ∧ v1 < 8 ∧ (Q (some (0, φ 13 ((v1).toNat))) φ x)) ∧ (v2 = 1 → 0 ≤ v1 ∧ v1 < 8 ∧ (Q (some (0, φ 14 ((v1).toNat))) φ x)) ∧ (v2 = 2 → hw sc d 74 0 [(0, (2, 17)), (1, (0, v1))] [] φ x (fun r ψ8 y8 => y8 = x ∧ φ = ψ8 ∧ (∃ z8 : Int, r = some (0, z8) ∧ (hi z8 ∧ (z8 = 0 → Q (some (0, 0)) φ x) ∧ (¬ z8 = 0 → Q (some (0, 1)) φ x))))) ∧ (v2 = 3 → 0 ≤ v1 ∧ v1 < 8 ∧ (Q (some (0, φ 15 ((v1).toNat))) φ x)) ∧ (v2 = 4 → 0 ≤ v1 ∧ v1 < 8 ∧ (Q (some (0, φ 25 ((v1).toNat))) φ x)) ∧ ((v2 < 0 ∨ 5 ≤ v2) → Q (some (0, (-1 : Int))) φ x)) ∧ (¬ (¬ z1 = 0) → Q (some (0, (-1 : Int))) φ x))))) :
    hw sc (d + 1) 73 0 [(0, (2, 0)), (1, (0, v1)), (2, (0, v2))] [] φ x Q := by
  refine hw_ald (b := 0) (e := 0) (by decide +kernel) rfl (by decide) ?_
  refine hw_k (c := 4) (b := 0) (e := 1) (by decide +kernel) ?_
  refine hw_ld (b := 1) (e := 0) (by decide +kernel) rfl ?_
  refine hr_call (a0 := 10) (b := 70) (e := 3) (nl := 3) (As := [(0, 4), (0, v1)]) (R := []) 0 rfl (by decide +kernel) rfl rfl (Nat.le_of_ble_eq_true rfl) (Nat.le_of_ble_eq_true rfl) ?_
  refine hw_mono H ?_
  rintro r ψ1 y1 ⟨hyx, hψx, z1, hr, H⟩
  subst hyx
  subst hψx
  subst hr
  refine ⟨hne0, ?_⟩
  show hw sc (d + 1) 73 6 [(0, (2, 0)), (1, (0, v1)), (2, (0, v2))] [(0, z1)] φ y1 Q
  obtain ⟨hz2, ht2, hf2⟩ := H
  refine hw_if (a0 := 0) (b := 1) (e := 11) (by decide +kernel) hz2 (fun q => ?_) (fun q => ?_)
  · have H := ht2 q
    refine hw_ld (b := 2) (e := 0) (by decide +kernel) rfl ?_
    obtain ⟨hz3, H⟩ := H
    refine hr_tsw (T := [48, 61, 74, 94, 107]) (lo := 0) (nn := 5) (b := 120) (e := 2) (by decide +kernel) rfl hz3 ?_ ?_
    · intro q
      have H := H.2.2.2.2.2 q
      refine hw_k (c := (-1 : Int)) (b := 0) (e := 1) (by decide +kernel) ?_
      exact hw_ret (a0 := 0) (e := 0) (by decide +kernel) (Or.inl rfl) H
    · intro kq tq htq hzq
      match kq, htq, hzq with
      | 0, htq, hzq =>
        cases htq
        have H := H.1 (by omega)
        refine hw_ald (b := 0) (e := 0) (by decide +kernel) rfl (by decide) ?_
        refine hr_gr (w := 4) (b := 0) (e := 1) 0 rfl (by decide +kernel) ?_
        refine hr_gr (w := 5) (b := 2) (e := 0) 4 rfl (by decide +kernel) ?_
        refine hr_gr (w := 13) (b := 3) (e := 7) 5 rfl (by decide +kernel) ?_
        refine hw_ld (b := 1) (e := 0) (by decide +kernel) rfl ?_
        obtain ⟨hl4, hu4, H⟩ := H
        refine hr_al (b := 0) (a0 := 0) (e := 0) (n := 8) (w := φ 13 ((v1).toNat)) 13 rfl (by decide +kernel) (by decide) hl4 hu4 rfl ?_
        exact hw_ret (a0 := 0) (e := 0) (by decide +kernel) (Or.inl rfl) H
      | 1, htq, hzq =>
        cases htq
        have H := H.2.1 (by omega)
        refine hw_ald (b := 0) (e := 0) (by decide +kernel) rfl (by decide) ?_
        refine hr_gr (w := 4) (b := 0) (e := 1) 0 rfl (by decide +kernel) ?_
        refine hr_gr (w := 5) (b := 2) (e := 0) 4 rfl (by decide +kernel) ?_
        refine hr_gr (w := 14) (b := 3) (e := 8) 5 rfl (by decide +kernel) ?_
        refine hw_ld (b := 1) (e := 0) (by decide +kernel) rfl ?_
        obtain ⟨hl6, hu6, H⟩ := H
        refine hr_al (b := 0) (a0 := 0) (e := 0) (n := 8) (w := φ 14 ((v1).toNat)) 14 rfl (by decide +kernel) (by decide) hl6 hu6 rfl ?_
        exact hw_ret (a0 := 0) (e := 0) (by decide +kernel) (Or.inl rfl) H
      | 2, htq, hzq =>
        cases htq
        have H := H.2.2.1 (by omega)
        refine hw_ald (b := 0) (e := 0) (by decide +kernel) rfl (by decide) ?_
        refine hr_gr (w := 4) (b := 0) (e := 1) 0 rfl (by decide +kernel) ?_
        refine hr_gr (w := 17) (b := 2) (e := 1) 4 rfl (by decide +kernel) ?_
        refine hw_ld (b := 1) (e := 0) (by decide +kernel) rfl ?_
        refine hr_call (a0 := 14) (b := 74) (e := 2) (nl := 2) (As := [(0, v1)]) (R := []) 17 rfl (by decide +kernel) rfl rfl (Nat.le_of_ble_eq_true rfl) (Nat.le_of_ble_eq_true rfl) ?_
        refine hw_mono H ?_
        rintro r ψ8 y8 ⟨hyx, hψx, z8, hr, H⟩
        subst hyx
        subst hψx
        subst hr
        refine ⟨hne0, ?_⟩
        show hw sc (d + 1) 73 85 [(0, (2, 0)), (1, (0, v1)), (2, (0, v2))] [(0, z8)] φ y8 Q
        obtain ⟨hz9, ht9, hf9⟩ := H
        refine hw_if (a0 := 0) (b := 0) (e := 92) (by decide +kernel) hz9 (fun q => ?_) (fun q => ?_)
        · have H := ht9 q
          refine hw_k (c := 0) (b := 0) (e := 1) (by decide +kernel) ?_
          exact hw_ret (a0 := 0) (e := 0) (by decide +kernel) (Or.inl rfl) H
        · have H := hf9 q
          refine hw_k (c := 1) (b := 0) (e := 1) (by decide +kernel) ?_
          refine hw_goto (a0 := 0) (b := 0) (e := 93) (by decide +kernel) ?_
          exact hw_ret (a0 := 0) (e := 0) (by decide +kernel) (Or.inl rfl) H
      | 3, htq, hzq =>
        cases htq
        have H := H.2.2.2.1 (by omega)
        refine hw_ald (b := 0) (e := 0) (by decide +kernel) rfl (by decide) ?_
        refine hr_gr (w := 4) (b := 0) (e := 1) 0 rfl (by decide +kernel) ?_
        refine hr_gr (w := 5) (b := 2) (e := 0) 4 rfl (by decide +kernel) ?_
        refine hr_gr (w := 15) (b := 3) (e := 9) 5 rfl (by decide +kernel) ?_
        refine hw_ld (b := 1) (e := 0) (by decide +kernel) rfl ?_
        obtain ⟨hl12, hu12, H⟩ := H
        refine hr_al (b := 0) (a0 := 0) (e := 0) (n := 8) (w := φ 15 ((v1).toNat)) 15 rfl (by decide +kernel) (by decide) hl12 hu12 rfl ?_
        exact hw_ret (a0 := 0) (e := 0) (by decide +kernel) (Or.inl rfl) H
      | 4, htq, hzq =>
        cases htq
        have H := H.2.2.2.2.1 (by omega)
        refine hw_ald (b := 0) (e := 0) (by decide +kernel) rfl (by decide) ?_
        refine hr_gr (w := 4) (b := 0) (e := 1) 0 rfl (by decide +kernel) ?_
        refine hr_gr (w := 17) (b := 2) (e := 1) 4 rfl (by decide +kernel) ?_
        refine hr_gr (w := 25) (b := 4) (e := 13) 17 rfl (by decide +kernel) ?_
        refine hw_ld (b := 1) (e := 0) (by decide +kernel) rfl ?_
        obtain ⟨hl14, hu14, H⟩ := H
        refine hr_al (b := 0) (a0 := 0) (e := 0) (n := 8) (w := φ 25 ((v1).toNat)) 25 rfl (by decide +kernel) (by decide) hl14 hu14 rfl ?_
        exact hw_ret (a0 := 0) (e := 0) (by decide +kernel) (Or.inl rfl) H
      | kq + 5, htq, _ => cases htq
  · have H := hf2 q
    refine hw_k (c := (-1 : Int)) (b := 0) (e := 1) (by decide +kernel) ?_
    exact hw_ret (a0 := 0) (e := 0) (by decide +kernel) (Or.inl rfl) H
theorem sf_73_0 {sc : List Int} {d : Nat} {φ : hf_F} {x : Nat} {Q : Option jm_V → hf_F → Nat → Prop} {v1 v2 : Int} (hI : Inv φ) (h1a : (-2147483648 : Int) ≤ v1) (h1b : v1 ≤ 2147483647) (h2a : (-2147483648 : Int) ≤ v2) (h2b : v2 ≤ 2147483647) (hQ : ∀ (r : Int), True → F_RideLaws_law_0 φ v1 v2 = r → Q (some (0, r)) φ x) : hw sc (d + 1) 73 0 [(0, (2, 0)), (1, (0, v1)), (2, (0, v2))] [] φ x Q := by
  apply sf_73_0_v
  have e0 : F_RideLaws_law_0 φ v1 v2 = _ := rfl
  refine sf_70_0_k1_4 (φ := φ) hI (by omega) (by omega) (fun z1 hp1 hE1 => ⟨rfl, rfl, z1, rfl, ?_⟩)
  have e1 := e0.trans (bnp_e hE1)
  have f1 := iv_at (a := 6) (k := 4) (lo := 0) (u := 8) hI (by decide +kernel)
  refine ⟨by unfold hi; omega, fun q2 => ?_, fun q2 => ?_⟩
  · skip
    have e2a := e1.trans (if_pos q2)
    refine ⟨by unfold hi; omega, fun q3 => ?_, fun q3 => ?_, fun q3 => ?_, fun q3 => ?_, fun q3 => ?_, fun q3 => ?_⟩
    · skip
      have e3_0 := (e2a).trans (if_pos q3)
      refine ⟨by omega, by omega, ?_⟩
      have f2 := iv_ar (a := 13) (s := 0) (t := 8) (lo := 0) (u := 7) (z := v1) hI (by decide +kernel) (by omega) (by omega)
      exact hQ (φ 13 ((v1).toNat)) trivial e3_0
    · skip
      have e3_1 := ((e2a).trans (if_neg (by omega))).trans (if_pos q3)
      refine ⟨by omega, by omega, ?_⟩
      have f3 := iv_ar (a := 14) (s := 0) (t := 8) (lo := 0) (u := 7) (z := v1) hI (by decide +kernel) (by omega) (by omega)
      exact hQ (φ 14 ((v1).toNat)) trivial e3_1
    · skip
      have e3_2 := (((e2a).trans (if_neg (by omega))).trans (if_neg (by omega))).trans (if_pos q3)
      refine sf_74_17 (φ := φ) hI (by omega) (by omega) (fun z8 hp8 hE8 => ⟨rfl, rfl, z8, rfl, ?_⟩)
      have e8 := e3_2.trans (bnp_e hE8)
      refine ⟨by unfold hi; omega, fun q9 => ?_, fun q9 => ?_⟩
      · skip
        have e9a := e8.trans (if_pos q9)
        exact hQ 0 trivial e9a
      · skip
        have e9b := e8.trans (if_neg q9)
        exact hQ 1 trivial e9b
    · skip
      have e3_3 := ((((e2a).trans (if_neg (by omega))).trans (if_neg (by omega))).trans (if_neg (by omega))).trans (if_pos q3)
      refine ⟨by omega, by omega, ?_⟩
      have f4 := iv_ar (a := 15) (s := 0) (t := 8) (lo := (-2147483648 : Int)) (u := 2147483647) (z := v1) hI (by decide +kernel) (by omega) (by omega)
      exact hQ (φ 15 ((v1).toNat)) trivial e3_3
    · skip
      have e3_4 := (((((e2a).trans (if_neg (by omega))).trans (if_neg (by omega))).trans (if_neg (by omega))).trans (if_neg (by omega))).trans (if_pos q3)
      refine ⟨by omega, by omega, ?_⟩
      exact hQ (φ 25 ((v1).toNat)) trivial e3_4
    · skip
      have e3_5 := (((((e2a).trans (if_neg (by omega))).trans (if_neg (by omega))).trans (if_neg (by omega))).trans (if_neg (by omega))).trans (if_neg (by omega))
      exact hQ (-1 : Int) trivial e3_5
  · skip
    have e2b := e1.trans (if_neg q2)
    exact hQ (-1 : Int) trivial e2b
theorem sf_76_0_v4 {sc : List Int} {d : Nat} {φ : hf_F} {x : Nat} {Q : Option jm_V → hf_F → Nat → Prop} {L : jm_L} {l1 l2 : Int} (g0 : jm_get L 0 = some (2, 0)) (g1 : jm_get L 1 = some (0, l1)) (g2 : jm_get L 2 = some (0, l2))
    (H : hi l2 ∧ hi (φ 6 1) ∧ ((φ 6 1) ≤ l2 → Q (some (0, l1)) φ x) ∧ (¬ (φ 6 1) ≤ l2 → 0 ≤ l2 ∧ l2 < 8 ∧ ((¬ (jm_n (φ 18 ((l2).toNat))) = 0 → hw sc d 76 4 (jm_st1 L 2 (0, l2 + 1)) [] φ x Q) ∧ (¬ (¬ (jm_n (φ 18 ((l2).toNat))) = 0) → hw sc d 76 4 (jm_st1 (jm_st1 L 1 (0, hb_or l1 (hb_shl 1 l2))) 2 (0, l2 + 1)) [] φ x Q)))) :
    hw sc d 76 4 L [] φ x Q := by
  refine hw_ld (b := 2) (e := 0) (by decide +kernel) g2 ?_
  refine hw_ald (b := 0) (e := 0) (by decide +kernel) g0 (by decide) ?_
  refine hr_gr (w := 4) (b := 0) (e := 1) 0 rfl (by decide +kernel) ?_
  refine hr_gr (w := 5) (b := 2) (e := 0) 4 rfl (by decide +kernel) ?_
  refine hr_gr (w := 6) (b := 3) (e := 0) 5 rfl (by decide +kernel) ?_
  refine hw_k (c := 1) (b := 0) (e := 1) (by decide +kernel) ?_
  refine hr_al (b := 0) (a0 := 0) (e := 0) (n := 5) (w := φ 6 1) 6 rfl (by decide +kernel) (by decide) (by decide) (by decide) rfl ?_
  obtain ⟨hz1, hy1, ht1, hf1⟩ := H
  refine hw_if2 (a0 := 0) (b := 3) (e := 47) (by decide +kernel) hz1 hy1 (fun q => ?_) (fun q => ?_)
  · have H := ht1 q
    refine hw_ld (b := 1) (e := 0) (by decide +kernel) g1 ?_
    exact hw_ret (a0 := 0) (e := 0) (by decide +kernel) (Or.inl rfl) H
  · have H := hf1 q
    refine hw_ald (b := 0) (e := 0) (by decide +kernel) g0 (by decide) ?_
    refine hr_gr (w := 4) (b := 0) (e := 1) 0 rfl (by decide +kernel) ?_
    refine hr_gr (w := 17) (b := 2) (e := 1) 4 rfl (by decide +kernel) ?_
    refine hr_gr (w := 18) (b := 4) (e := 6) 17 rfl (by decide +kernel) ?_
    refine hw_ld (b := 2) (e := 0) (by decide +kernel) g2 ?_
    obtain ⟨hl3, hu3, H⟩ := H
    refine hr_al (b := 0) (a0 := 0) (e := 0) (n := 8) (w := φ 18 ((l2).toNat)) 18 rfl (by decide +kernel) (by decide) hl3 hu3 rfl ?_
    obtain ⟨ht4, hf4⟩ := H
    refine hw_ifn (a0 := 0) (b := 1) (e := 41) (by decide +kernel) (fun q => ?_) (fun q => ?_)
    · have H := ht4 q
      refine hw_inc (L' := (jm_st1 L 2 (0, l2 + 1))) (c := 1) (b := 2) (e := 0) (by decide +kernel) g2 rfl ?_
      refine hw_goto (a0 := 0) (b := 0) (e := 4) (by decide +kernel) ?_
      exact H
    · have H := hf4 q
      refine hw_ld (b := 1) (e := 0) (by decide +kernel) g1 ?_
      refine hw_k (c := 1) (b := 0) (e := 1) (by decide +kernel) ?_
      refine hw_ld (b := 2) (e := 0) (by decide +kernel) g2 ?_
      refine hw_bin (w := hb_shl 1 l2) (a0 := 0) (b := 6) (e := 0) (by decide +kernel) rfl ?_
      refine hw_bin (w := hb_or l1 (hb_shl 1 l2)) (a0 := 0) (b := 4) (e := 0) (by decide +kernel) rfl ?_
      refine hw_st (L' := (jm_st1 L 1 (0, hb_or l1 (hb_shl 1 l2)))) (b := 1) (e := 0) (by decide +kernel) rfl ?_
      refine hw_inc (L' := (jm_st1 (jm_st1 L 1 (0, hb_or l1 (hb_shl 1 l2))) 2 (0, l2 + 1))) (c := 1) (b := 2) (e := 0) (by decide +kernel) (get_st1 g2 (by decide) (fun q => absurd q.1 (by decide))) rfl ?_
      refine hw_goto (a0 := 0) (b := 0) (e := 4) (by decide +kernel) ?_
      exact H
theorem sf_76_0_l4 {sc : List Int} {d x : Nat} {Q : Option jm_V → hf_F → Nat → Prop} : ∀ (n : Nat) (φ : hf_F) (L : jm_L) (l1 l2 : Int), jm_get L 0 = some (2, 0) → jm_get L 1 = some (0, l1) → jm_get L 2 = some (0, l2) → Inv φ → 8 - l2 < (n : Int) → (-2147483648 : Int) ≤ l1 → l1 ≤ 2147483647 → 0 ≤ l2 → l2 ≤ 8 → (∀ (r : Int), (-2147483648 : Int) ≤ r ∧ r ≤ 2147483647 → F_RideLaws_seatsAtBox_0_l4 n φ l1 l2 = r → Q (some (0, r)) φ x) → hw sc d 76 4 L [] φ x Q := by
  intro n
  induction n with
  | zero =>
    intro φ L l1 l2 g0 g1 g2 hI hM b1a b1b b2a b2b hQ
    exfalso
    omega
  | succ n ih =>
    intro φ L l1 l2 g0 g1 g2 hI hM b1a b1b b2a b2b hQ
    refine sf_76_0_v4 g0 g1 g2 ?_
    have e0 := F_RideLaws_seatsAtBox_0_l4_s (φ := φ) (l1 := l1) (l2 := l2) n
    have f1 := iv_at (a := 6) (k := 1) (lo := 0) (u := 8) hI (by decide +kernel)
    refine ⟨by unfold hi; omega, by unfold hi; omega, fun q1 => ?_, fun q1 => ?_⟩
    · skip
      have e1a := e0.trans (if_pos q1)
      exact hQ l1 ⟨by omega, by omega⟩ e1a
    · skip
      have e1b := e0.trans (if_neg q1)
      refine ⟨by omega, by omega, ?_⟩
      have f2 := hr_n (φ 18 ((l2).toNat))
      refine ⟨fun q4 => ?_, fun q4 => ?_⟩
      · skip
        have e4a := e1b.trans (if_pos q4)
        exact ih φ (jm_st1 L 2 (0, l2 + 1)) l1 (l2 + 1) (get_st1 g0 (by decide) (fun q => absurd q.1 (by decide))) (get_st1 g1 (by decide) (fun q => tg0 q.2)) get_st1e hI (by omega) (by omega) (by omega) (by omega) (by omega) (fun rr hpχ hEχ => hQ rr hpχ (e4a.trans hEχ))
      · skip
        have e4b := e1b.trans (if_neg q4)
        have f3 := hr_shl1 l2
        have f4 := hr_shl 1 l2
        have f5 := hr_or l1 (hb_shl 1 l2)
        exact ih φ (jm_st1 (jm_st1 L 1 (0, hb_or l1 (hb_shl 1 l2))) 2 (0, l2 + 1)) (hb_or l1 (hb_shl 1 l2)) (l2 + 1) (get_st1 (get_st1 g0 (by decide) (fun q => tg2 q.2)) (by decide) (fun q => absurd q.1 (by decide))) (get_st1 get_st1e (by decide) (fun q => tg0 q.2)) get_st1e hI (by omega) (by omega) (by omega) (by omega) (by omega) (fun rr hpχ hEχ => hQ rr hpχ (e4b.trans hEχ))
theorem sf_76_0_v {sc : List Int} {d : Nat} {φ : hf_F} {x : Nat} {Q : Option jm_V → hf_F → Nat → Prop} 
    (H : hw sc d 76 4 (jm_st1 (jm_st1 [(0, (2, 0))] 1 (0, 0)) 2 (0, 0)) [] φ x Q) :
    hw sc d 76 0 [(0, (2, 0))] [] φ x Q := by
  refine hw_k (c := 0) (b := 0) (e := 1) (by decide +kernel) ?_
  refine hw_st (L' := (jm_st1 [(0, (2, 0))] 1 (0, 0))) (b := 1) (e := 0) (by decide +kernel) rfl ?_
  refine hw_k (c := 0) (b := 0) (e := 1) (by decide +kernel) ?_
  refine hw_st (L' := (jm_st1 (jm_st1 [(0, (2, 0))] 1 (0, 0)) 2 (0, 0))) (b := 2) (e := 0) (by decide +kernel) rfl ?_
  exact H
theorem sf_76_0 {sc : List Int} {d : Nat} {φ : hf_F} {x : Nat} {Q : Option jm_V → hf_F → Nat → Prop}  (hI : Inv φ)  (hQ : ∀ (r : Int), (-2147483648 : Int) ≤ r ∧ r ≤ 2147483647 → F_RideLaws_seatsAtBox_0 φ = r → Q (some (0, r)) φ x) : hw sc d 76 0 [(0, (2, 0))] [] φ x Q := by
  apply sf_76_0_v
  have e0 : F_RideLaws_seatsAtBox_0 φ = _ := rfl
  exact sf_76_0_l4 ((8 - 0 : Int).toNat + 1) φ (jm_st1 (jm_st1 [(0, (2, 0))] 1 (0, 0)) 2 (0, 0)) 0 0 (get_st1 (get_st1 rfl (by decide) (fun q => tg2 q.2)) (by decide) (fun q => absurd q.1 (by decide))) (get_st1 get_st1e (by decide) (fun q => tg0 q.2)) get_st1e hI (by omega) (by omega) (by omega) (by omega) (by omega) (fun rr hpχ hEχ => hQ rr hpχ (e0.trans hEχ))
theorem sf_77_0_v4 {sc : List Int} {d : Nat} {φ : hf_F} {x : Nat} {Q : Option jm_V → hf_F → Nat → Prop} {L : jm_L} {l1 l2 : Int} (g0 : jm_get L 0 = some (2, 0)) (g1 : jm_get L 1 = some (0, l1)) (g2 : jm_get L 2 = some (0, l2))
    (H : hi l2 ∧ hi (φ 6 1) ∧ ((φ 6 1) ≤ l2 → Q (some (0, l1)) φ x) ∧ (¬ (φ 6 1) ≤ l2 → 0 ≤ l2 ∧ l2 < 8 ∧ (hi (φ 19 ((l2).toNat)) ∧ hi (-1 : Int) ∧ ((φ 19 ((l2).toNat)) = (-1 : Int) → hw sc d 77 4 (jm_st1 L 2 (0, l2 + 1)) [] φ x Q) ∧ (¬ (φ 19 ((l2).toNat)) = (-1 : Int) → hw sc d 77 4 (jm_st1 (jm_st1 L 1 (0, hb_or l1 (hb_shl 1 l2))) 2 (0, l2 + 1)) [] φ x Q)))) :
    hw sc d 77 4 L [] φ x Q := by
  refine hw_ld (b := 2) (e := 0) (by decide +kernel) g2 ?_
  refine hw_ald (b := 0) (e := 0) (by decide +kernel) g0 (by decide) ?_
  refine hr_gr (w := 4) (b := 0) (e := 1) 0 rfl (by decide +kernel) ?_
  refine hr_gr (w := 5) (b := 2) (e := 0) 4 rfl (by decide +kernel) ?_
  refine hr_gr (w := 6) (b := 3) (e := 0) 5 rfl (by decide +kernel) ?_
  refine hw_k (c := 1) (b := 0) (e := 1) (by decide +kernel) ?_
  refine hr_al (b := 0) (a0 := 0) (e := 0) (n := 5) (w := φ 6 1) 6 rfl (by decide +kernel) (by decide) (by decide) (by decide) rfl ?_
  obtain ⟨hz1, hy1, ht1, hf1⟩ := H
  refine hw_if2 (a0 := 0) (b := 3) (e := 48) (by decide +kernel) hz1 hy1 (fun q => ?_) (fun q => ?_)
  · have H := ht1 q
    refine hw_ld (b := 1) (e := 0) (by decide +kernel) g1 ?_
    exact hw_ret (a0 := 0) (e := 0) (by decide +kernel) (Or.inl rfl) H
  · have H := hf1 q
    refine hw_ald (b := 0) (e := 0) (by decide +kernel) g0 (by decide) ?_
    refine hr_gr (w := 4) (b := 0) (e := 1) 0 rfl (by decide +kernel) ?_
    refine hr_gr (w := 17) (b := 2) (e := 1) 4 rfl (by decide +kernel) ?_
    refine hr_gr (w := 19) (b := 4) (e := 7) 17 rfl (by decide +kernel) ?_
    refine hw_ld (b := 2) (e := 0) (by decide +kernel) g2 ?_
    obtain ⟨hl3, hu3, H⟩ := H
    refine hr_al (b := 0) (a0 := 0) (e := 0) (n := 8) (w := φ 19 ((l2).toNat)) 19 rfl (by decide +kernel) (by decide) hl3 hu3 rfl ?_
    refine hw_k (c := (-1 : Int)) (b := 0) (e := 1) (by decide +kernel) ?_
    obtain ⟨hz4, hy4, ht4, hf4⟩ := H
    refine hw_if2 (a0 := 0) (b := 0) (e := 42) (by decide +kernel) hz4 hy4 (fun q => ?_) (fun q => ?_)
    · have H := ht4 q
      refine hw_inc (L' := (jm_st1 L 2 (0, l2 + 1))) (c := 1) (b := 2) (e := 0) (by decide +kernel) g2 rfl ?_
      refine hw_goto (a0 := 0) (b := 0) (e := 4) (by decide +kernel) ?_
      exact H
    · have H := hf4 q
      refine hw_ld (b := 1) (e := 0) (by decide +kernel) g1 ?_
      refine hw_k (c := 1) (b := 0) (e := 1) (by decide +kernel) ?_
      refine hw_ld (b := 2) (e := 0) (by decide +kernel) g2 ?_
      refine hw_bin (w := hb_shl 1 l2) (a0 := 0) (b := 6) (e := 0) (by decide +kernel) rfl ?_
      refine hw_bin (w := hb_or l1 (hb_shl 1 l2)) (a0 := 0) (b := 4) (e := 0) (by decide +kernel) rfl ?_
      refine hw_st (L' := (jm_st1 L 1 (0, hb_or l1 (hb_shl 1 l2)))) (b := 1) (e := 0) (by decide +kernel) rfl ?_
      refine hw_inc (L' := (jm_st1 (jm_st1 L 1 (0, hb_or l1 (hb_shl 1 l2))) 2 (0, l2 + 1))) (c := 1) (b := 2) (e := 0) (by decide +kernel) (get_st1 g2 (by decide) (fun q => absurd q.1 (by decide))) rfl ?_
      refine hw_goto (a0 := 0) (b := 0) (e := 4) (by decide +kernel) ?_
      exact H
theorem sf_77_0_l4 {sc : List Int} {d x : Nat} {Q : Option jm_V → hf_F → Nat → Prop} : ∀ (n : Nat) (φ : hf_F) (L : jm_L) (l1 l2 : Int), jm_get L 0 = some (2, 0) → jm_get L 1 = some (0, l1) → jm_get L 2 = some (0, l2) → Inv φ → 8 - l2 < (n : Int) → (-2147483648 : Int) ≤ l1 → l1 ≤ 2147483647 → 0 ≤ l2 → l2 ≤ 8 → (∀ (r : Int), True → F_RideLaws_seatsTaken_0_l4 n φ l1 l2 = r → Q (some (0, r)) φ x) → hw sc d 77 4 L [] φ x Q := by
  intro n
  induction n with
  | zero =>
    intro φ L l1 l2 g0 g1 g2 hI hM b1a b1b b2a b2b hQ
    exfalso
    omega
  | succ n ih =>
    intro φ L l1 l2 g0 g1 g2 hI hM b1a b1b b2a b2b hQ
    refine sf_77_0_v4 g0 g1 g2 ?_
    have e0 := F_RideLaws_seatsTaken_0_l4_s (φ := φ) (l1 := l1) (l2 := l2) n
    have f1 := iv_at (a := 6) (k := 1) (lo := 0) (u := 8) hI (by decide +kernel)
    refine ⟨by unfold hi; omega, by unfold hi; omega, fun q1 => ?_, fun q1 => ?_⟩
    · skip
      have e1a := e0.trans (if_pos q1)
      exact hQ l1 trivial e1a
    · skip
      have e1b := e0.trans (if_neg q1)
      refine ⟨by omega, by omega, ?_⟩
      have f2 := iv_ar (a := 19) (s := 0) (t := 8) (lo := (-1 : Int)) (u := 5) (z := l2) hI (by decide +kernel) (by omega) (by omega)
      refine ⟨by unfold hi; omega, by unfold hi; omega, fun q4 => ?_, fun q4 => ?_⟩
      · skip
        have e4a := e1b.trans (if_pos q4)
        exact ih φ (jm_st1 L 2 (0, l2 + 1)) l1 (l2 + 1) (get_st1 g0 (by decide) (fun q => absurd q.1 (by decide))) (get_st1 g1 (by decide) (fun q => tg0 q.2)) get_st1e hI (by omega) (by omega) (by omega) (by omega) (by omega) (fun rr hpχ hEχ => hQ rr hpχ (e4a.trans hEχ))
      · skip
        have e4b := e1b.trans (if_neg q4)
        have f3 := hr_shl1 l2
        have f4 := hr_shl 1 l2
        have f5 := hr_or l1 (hb_shl 1 l2)
        exact ih φ (jm_st1 (jm_st1 L 1 (0, hb_or l1 (hb_shl 1 l2))) 2 (0, l2 + 1)) (hb_or l1 (hb_shl 1 l2)) (l2 + 1) (get_st1 (get_st1 g0 (by decide) (fun q => tg2 q.2)) (by decide) (fun q => absurd q.1 (by decide))) (get_st1 get_st1e (by decide) (fun q => tg0 q.2)) get_st1e hI (by omega) (by omega) (by omega) (by omega) (by omega) (fun rr hpχ hEχ => hQ rr hpχ (e4b.trans hEχ))
theorem sf_77_0_v {sc : List Int} {d : Nat} {φ : hf_F} {x : Nat} {Q : Option jm_V → hf_F → Nat → Prop} 
    (H : hw sc d 77 4 (jm_st1 (jm_st1 [(0, (2, 0))] 1 (0, 0)) 2 (0, 0)) [] φ x Q) :
    hw sc d 77 0 [(0, (2, 0))] [] φ x Q := by
  refine hw_k (c := 0) (b := 0) (e := 1) (by decide +kernel) ?_
  refine hw_st (L' := (jm_st1 [(0, (2, 0))] 1 (0, 0))) (b := 1) (e := 0) (by decide +kernel) rfl ?_
  refine hw_k (c := 0) (b := 0) (e := 1) (by decide +kernel) ?_
  refine hw_st (L' := (jm_st1 (jm_st1 [(0, (2, 0))] 1 (0, 0)) 2 (0, 0))) (b := 2) (e := 0) (by decide +kernel) rfl ?_
  exact H
theorem sf_77_0 {sc : List Int} {d : Nat} {φ : hf_F} {x : Nat} {Q : Option jm_V → hf_F → Nat → Prop}  (hI : Inv φ)  (hQ : ∀ (r : Int), True → F_RideLaws_seatsTaken_0 φ = r → Q (some (0, r)) φ x) : hw sc d 77 0 [(0, (2, 0))] [] φ x Q := by
  apply sf_77_0_v
  have e0 : F_RideLaws_seatsTaken_0 φ = _ := rfl
  exact sf_77_0_l4 ((8 - 0 : Int).toNat + 1) φ (jm_st1 (jm_st1 [(0, (2, 0))] 1 (0, 0)) 2 (0, 0)) 0 0 (get_st1 (get_st1 rfl (by decide) (fun q => tg2 q.2)) (by decide) (fun q => absurd q.1 (by decide))) (get_st1 get_st1e (by decide) (fun q => tg0 q.2)) get_st1e hI (by omega) (by omega) (by omega) (by omega) (by omega) (fun rr hpχ hEχ => hQ rr hpχ (e0.trans hEχ))
theorem sf_75_0_v {sc : List Int} {d : Nat} {φ : hf_F} {x : Nat} {Q : Option jm_V → hf_F → Nat → Prop} {v1 : Int}
    (H : hi v1 ∧ (v1 = 0 → Q (some (0, φ 17 0)) φ x) ∧ (v1 = 1 → Q (some (0, φ 17 1)) φ x) ∧ (v1 = 2 → Q (some (0, φ 17 2)) φ x) ∧ (v1 = 3 → Q (some (0, φ 17 3)) φ x) ∧ (v1 = 4 → Q (some (0, φ 17 4)) φ x) ∧ (v1 = 5 → hw sc d 76 0 [(0, (2, 0))] [] φ x (fun r ψ7 y7 => y7 = x ∧ φ = ψ7 ∧ (∃ z7 : Int, r = some (0, z7) ∧ (Q (some (0, z7)) φ x)))) ∧ (v1 = 6 → hw sc d 77 0 [(0, (2, 0))] [] φ x (fun r ψ9 y9 => y9 = x ∧ φ = ψ9 ∧ (∃ z9 : Int, r = some (0, z9) ∧ (Q (some (0, z9)) φ x)))) ∧ (v1 = 7 → Q (some (0, φ 17 5)) φ x) ∧ ((v1 < 0 ∨ 8 ≤ v1) → Q (some (0, (-1 : Int))) φ x)) :
    hw sc (d + 1) 75 0 [(0, (2, 0)), (1, (0, v1))] [] φ x Q := by
  refine hw_ld (b := 1) (e := 0) (by decide +kernel) rfl ?_
  obtain ⟨hz1, H⟩ := H
  refine hr_tsw (T := [48, 59, 70, 81, 92, 103, 108, 113]) (lo := 0) (nn := 8) (b := 124) (e := 3) (by decide +kernel) rfl hz1 ?_ ?_
  · intro q
    have H := H.2.2.2.2.2.2.2.2 q
    refine hw_k (c := (-1 : Int)) (b := 0) (e := 1) (by decide +kernel) ?_
    exact hw_ret (a0 := 0) (e := 0) (by decide +kernel) (Or.inl rfl) H
  · intro kq tq htq hzq
    match kq, htq, hzq with
    | 0, htq, hzq =>
      cases htq
      have H := H.1 (by omega)
      refine hw_ald (b := 0) (e := 0) (by decide +kernel) rfl (by decide) ?_
      refine hr_gr (w := 4) (b := 0) (e := 1) 0 rfl (by decide +kernel) ?_
      refine hr_gr (w := 17) (b := 2) (e := 1) 4 rfl (by decide +kernel) ?_
      refine hr_gi (w := φ 17 0) (b := 4) (e := 0) 17 rfl (by decide +kernel) rfl ?_
      exact hw_ret (a0 := 0) (e := 0) (by decide +kernel) (Or.inl rfl) H
    | 1, htq, hzq =>
      cases htq
      have H := H.2.1 (by omega)
      refine hw_ald (b := 0) (e := 0) (by decide +kernel) rfl (by decide) ?_
      refine hr_gr (w := 4) (b := 0) (e := 1) 0 rfl (by decide +kernel) ?_
      refine hr_gr (w := 17) (b := 2) (e := 1) 4 rfl (by decide +kernel) ?_
      refine hr_gi (w := φ 17 1) (b := 4) (e := 1) 17 rfl (by decide +kernel) rfl ?_
      exact hw_ret (a0 := 0) (e := 0) (by decide +kernel) (Or.inl rfl) H
    | 2, htq, hzq =>
      cases htq
      have H := H.2.2.1 (by omega)
      refine hw_ald (b := 0) (e := 0) (by decide +kernel) rfl (by decide) ?_
      refine hr_gr (w := 4) (b := 0) (e := 1) 0 rfl (by decide +kernel) ?_
      refine hr_gr (w := 17) (b := 2) (e := 1) 4 rfl (by decide +kernel) ?_
      refine hr_gi (w := φ 17 2) (b := 4) (e := 2) 17 rfl (by decide +kernel) rfl ?_
      exact hw_ret (a0 := 0) (e := 0) (by decide +kernel) (Or.inl rfl) H
    | 3, htq, hzq =>
      cases htq
      have H := H.2.2.2.1 (by omega)
      refine hw_ald (b := 0) (e := 0) (by decide +kernel) rfl (by decide) ?_
      refine hr_gr (w := 4) (b := 0) (e := 1) 0 rfl (by decide +kernel) ?_
      refine hr_gr (w := 17) (b := 2) (e := 1) 4 rfl (by decide +kernel) ?_
      refine hr_gi (w := φ 17 3) (b := 4) (e := 3) 17 rfl (by decide +kernel) rfl ?_
      exact hw_ret (a0 := 0) (e := 0) (by decide +kernel) (Or.inl rfl) H
    | 4, htq, hzq =>
      cases htq
      have H := H.2.2.2.2.1 (by omega)
      refine hw_ald (b := 0) (e := 0) (by decide +kernel) rfl (by decide) ?_
      refine hr_gr (w := 4) (b := 0) (e := 1) 0 rfl (by decide +kernel) ?_
      refine hr_gr (w := 17) (b := 2) (e := 1) 4 rfl (by decide +kernel) ?_
      refine hr_gi (w := φ 17 4) (b := 4) (e := 4) 17 rfl (by decide +kernel) rfl ?_
      exact hw_ret (a0 := 0) (e := 0) (by decide +kernel) (Or.inl rfl) H
    | 5, htq, hzq =>
      cases htq
      have H := H.2.2.2.2.2.1 (by omega)
      refine hw_ald (b := 0) (e := 0) (by decide +kernel) rfl (by decide) ?_
      refine hr_call (a0 := 10) (b := 76) (e := 1) (nl := 3) (As := []) (R := []) 0 rfl (by decide +kernel) rfl rfl (Nat.le_of_ble_eq_true rfl) (Nat.le_of_ble_eq_true rfl) ?_
      refine hw_mono H ?_
      rintro r ψ7 y7 ⟨hyx, hψx, z7, hr, H⟩
      subst hyx
      subst hψx
      subst hr
      refine ⟨hne0, ?_⟩
      show hw sc (d + 1) 75 107 [(0, (2, 0)), (1, (0, v1))] [(0, z7)] φ y7 Q
      exact hw_ret (a0 := 0) (e := 0) (by decide +kernel) (Or.inl rfl) H
    | 6, htq, hzq =>
      cases htq
      have H := H.2.2.2.2.2.2.1 (by omega)
      refine hw_ald (b := 0) (e := 0) (by decide +kernel) rfl (by decide) ?_
      refine hr_call (a0 := 10) (b := 77) (e := 1) (nl := 3) (As := []) (R := []) 0 rfl (by decide +kernel) rfl rfl (Nat.le_of_ble_eq_true rfl) (Nat.le_of_ble_eq_true rfl) ?_
      refine hw_mono H ?_
      rintro r ψ9 y9 ⟨hyx, hψx, z9, hr, H⟩
      subst hyx
      subst hψx
      subst hr
      refine ⟨hne0, ?_⟩
      show hw sc (d + 1) 75 112 [(0, (2, 0)), (1, (0, v1))] [(0, z9)] φ y9 Q
      exact hw_ret (a0 := 0) (e := 0) (by decide +kernel) (Or.inl rfl) H
    | 7, htq, hzq =>
      cases htq
      have H := H.2.2.2.2.2.2.2.1 (by omega)
      refine hw_ald (b := 0) (e := 0) (by decide +kernel) rfl (by decide) ?_
      refine hr_gr (w := 4) (b := 0) (e := 1) 0 rfl (by decide +kernel) ?_
      refine hr_gr (w := 17) (b := 2) (e := 1) 4 rfl (by decide +kernel) ?_
      refine hr_gi (w := φ 17 5) (b := 4) (e := 5) 17 rfl (by decide +kernel) rfl ?_
      exact hw_ret (a0 := 0) (e := 0) (by decide +kernel) (Or.inl rfl) H
    | kq + 8, htq, _ => cases htq
theorem sf_75_0 {sc : List Int} {d : Nat} {φ : hf_F} {x : Nat} {Q : Option jm_V → hf_F → Nat → Prop} {v1 : Int} (hI : Inv φ) (h1a : (-2147483648 : Int) ≤ v1) (h1b : v1 ≤ 2147483647) (hQ : ∀ (r : Int), True → F_RideLaws_now_0 φ v1 = r → Q (some (0, r)) φ x) : hw sc (d + 1) 75 0 [(0, (2, 0)), (1, (0, v1))] [] φ x Q := by
  apply sf_75_0_v
  have e0 : F_RideLaws_now_0 φ v1 = _ := rfl
  refine ⟨by unfold hi; omega, fun q1 => ?_, fun q1 => ?_, fun q1 => ?_, fun q1 => ?_, fun q1 => ?_, fun q1 => ?_, fun q1 => ?_, fun q1 => ?_, fun q1 => ?_⟩
  · skip
    have e1_0 := (e0).trans (if_pos q1)
    exact hQ (φ 17 0) trivial e1_0
  · skip
    have e1_1 := ((e0).trans (if_neg (by omega))).trans (if_pos q1)
    have f1 := iv_at (a := 17) (k := 1) (lo := (-1 : Int)) (u := 7) hI (by decide +kernel)
    exact hQ (φ 17 1) trivial e1_1
  · skip
    have e1_2 := (((e0).trans (if_neg (by omega))).trans (if_neg (by omega))).trans (if_pos q1)
    have f2 := iv_at (a := 17) (k := 2) (lo := (-1 : Int)) (u := 5) hI (by decide +kernel)
    exact hQ (φ 17 2) trivial e1_2
  · skip
    have e1_3 := ((((e0).trans (if_neg (by omega))).trans (if_neg (by omega))).trans (if_neg (by omega))).trans (if_pos q1)
    have f3 := iv_at (a := 17) (k := 3) (lo := (-2147483648 : Int)) (u := 2147483647) hI (by decide +kernel)
    exact hQ (φ 17 3) trivial e1_3
  · skip
    have e1_4 := (((((e0).trans (if_neg (by omega))).trans (if_neg (by omega))).trans (if_neg (by omega))).trans (if_neg (by omega))).trans (if_pos q1)
    exact hQ (φ 17 4) trivial e1_4
  · skip
    have e1_5 := ((((((e0).trans (if_neg (by omega))).trans (if_neg (by omega))).trans (if_neg (by omega))).trans (if_neg (by omega))).trans (if_neg (by omega))).trans (if_pos q1)
    refine sf_76_0 (φ := φ) hI  (fun z7 hp7 hE7 => ⟨rfl, rfl, z7, rfl, ?_⟩)
    have e7 := e1_5.trans (bnp_e hE7)
    exact hQ z7 trivial e7
  · skip
    have e1_6 := (((((((e0).trans (if_neg (by omega))).trans (if_neg (by omega))).trans (if_neg (by omega))).trans (if_neg (by omega))).trans (if_neg (by omega))).trans (if_neg (by omega))).trans (if_pos q1)
    refine sf_77_0 (φ := φ) hI  (fun z9 hp9 hE9 => ⟨rfl, rfl, z9, rfl, ?_⟩)
    have e9 := e1_6.trans (bnp_e hE9)
    exact hQ z9 trivial e9
  · skip
    have e1_7 := ((((((((e0).trans (if_neg (by omega))).trans (if_neg (by omega))).trans (if_neg (by omega))).trans (if_neg (by omega))).trans (if_neg (by omega))).trans (if_neg (by omega))).trans (if_neg (by omega))).trans (if_pos q1)
    exact hQ (φ 17 5) trivial e1_7
  · skip
    have e1_8 := ((((((((e0).trans (if_neg (by omega))).trans (if_neg (by omega))).trans (if_neg (by omega))).trans (if_neg (by omega))).trans (if_neg (by omega))).trans (if_neg (by omega))).trans (if_neg (by omega))).trans (if_neg (by omega))
    exact hQ (-1 : Int) trivial e1_8
theorem sf_66_17_43_v {sc : List Int} {d : Nat} {φ : hf_F} {x : Nat} {Q : Option jm_V → hf_F → Nat → Prop} 
    (H : Q none (hf_cp (hf_cp (hf_cp (hf_cp (hf_cp (hf_cp (hf_cp (hf_cp (hf_up (hf_up (hf_up (hf_up (hf_up (hf_up φ 17 0 (φ 43 0)) 17 1 (φ 43 1)) 17 2 (φ 43 2)) 17 3 (φ 43 3)) 17 4 (φ 43 4)) 17 5 (φ 43 5)) 44 18 8) 45 19 8) 46 20 6) 47 21 6) 48 22 36) 49 23 6) 50 24 6) 51 25 8) x) :
    hw sc d 66 0 [(0, (2, 17)), (1, (2, 43))] [] φ x Q := by
  refine hw_ald (b := 0) (e := 0) (by decide +kernel) rfl (by decide) ?_
  refine hw_ald (b := 1) (e := 0) (by decide +kernel) rfl (by decide) ?_
  refine hr_gi (w := φ 43 0) (b := 4) (e := 0) 43 rfl (by decide +kernel) rfl ?_
  refine hr_pi (b := 4) (e := 0) 17 rfl (by decide +kernel) ?_
  refine hw_ald (b := 0) (e := 0) (by decide +kernel) rfl (by decide) ?_
  refine hw_ald (b := 1) (e := 0) (by decide +kernel) rfl (by decide) ?_
  refine hr_gi (w := φ 43 1) (b := 4) (e := 1) 43 rfl (by decide +kernel) (hf_up_ne (fun q => absurd q.1 (by decide))) ?_
  refine hr_pi (b := 4) (e := 1) 17 rfl (by decide +kernel) ?_
  refine hw_ald (b := 0) (e := 0) (by decide +kernel) rfl (by decide) ?_
  refine hw_ald (b := 1) (e := 0) (by decide +kernel) rfl (by decide) ?_
  refine hr_gi (w := φ 43 2) (b := 4) (e := 2) 43 rfl (by decide +kernel) ((hf_up_ne (fun q => absurd q.1 (by decide))).trans (hf_up_ne (fun q => absurd q.1 (by decide)))) ?_
  refine hr_pi (b := 4) (e := 2) 17 rfl (by decide +kernel) ?_
  refine hw_ald (b := 0) (e := 0) (by decide +kernel) rfl (by decide) ?_
  refine hw_ald (b := 1) (e := 0) (by decide +kernel) rfl (by decide) ?_
  refine hr_gi (w := φ 43 3) (b := 4) (e := 3) 43 rfl (by decide +kernel) ((hf_up_ne (fun q => absurd q.1 (by decide))).trans ((hf_up_ne (fun q => absurd q.1 (by decide))).trans (hf_up_ne (fun q => absurd q.1 (by decide))))) ?_
  refine hr_pi (b := 4) (e := 3) 17 rfl (by decide +kernel) ?_
  refine hw_ald (b := 0) (e := 0) (by decide +kernel) rfl (by decide) ?_
  refine hw_ald (b := 1) (e := 0) (by decide +kernel) rfl (by decide) ?_
  refine hr_gi (w := φ 43 4) (b := 4) (e := 4) 43 rfl (by decide +kernel) ((hf_up_ne (fun q => absurd q.1 (by decide))).trans ((hf_up_ne (fun q => absurd q.1 (by decide))).trans ((hf_up_ne (fun q => absurd q.1 (by decide))).trans (hf_up_ne (fun q => absurd q.1 (by decide)))))) ?_
  refine hr_pi (b := 4) (e := 4) 17 rfl (by decide +kernel) ?_
  refine hw_ald (b := 0) (e := 0) (by decide +kernel) rfl (by decide) ?_
  refine hw_ald (b := 1) (e := 0) (by decide +kernel) rfl (by decide) ?_
  refine hr_gi (w := φ 43 5) (b := 4) (e := 5) 43 rfl (by decide +kernel) ((hf_up_ne (fun q => absurd q.1 (by decide))).trans ((hf_up_ne (fun q => absurd q.1 (by decide))).trans ((hf_up_ne (fun q => absurd q.1 (by decide))).trans ((hf_up_ne (fun q => absurd q.1 (by decide))).trans (hf_up_ne (fun q => absurd q.1 (by decide))))))) ?_
  refine hr_pi (b := 4) (e := 5) 17 rfl (by decide +kernel) ?_
  refine hw_ald (b := 1) (e := 0) (by decide +kernel) rfl (by decide) ?_
  refine hr_gr (w := 44) (b := 4) (e := 6) 43 rfl (by decide +kernel) ?_
  refine hw_k (c := 0) (b := 0) (e := 1) (by decide +kernel) ?_
  refine hw_ald (b := 0) (e := 0) (by decide +kernel) rfl (by decide) ?_
  refine hr_gr (w := 18) (b := 4) (e := 6) 17 rfl (by decide +kernel) ?_
  refine hw_k (c := 0) (b := 0) (e := 1) (by decide +kernel) ?_
  refine hw_k (c := 8) (b := 1) (e := 2) (by decide +kernel) ?_
  refine hr_cp (a0 := 0) (b0 := 0) (e := 0) 44 18 8 rfl rfl rfl (by decide +kernel) (Nat.le_of_ble_eq_true rfl) ?_
  refine hw_ald (b := 1) (e := 0) (by decide +kernel) rfl (by decide) ?_
  refine hr_gr (w := 45) (b := 4) (e := 7) 43 rfl (by decide +kernel) ?_
  refine hw_k (c := 0) (b := 0) (e := 1) (by decide +kernel) ?_
  refine hw_ald (b := 0) (e := 0) (by decide +kernel) rfl (by decide) ?_
  refine hr_gr (w := 19) (b := 4) (e := 7) 17 rfl (by decide +kernel) ?_
  refine hw_k (c := 0) (b := 0) (e := 1) (by decide +kernel) ?_
  refine hw_k (c := 8) (b := 1) (e := 2) (by decide +kernel) ?_
  refine hr_cp (a0 := 0) (b0 := 0) (e := 0) 45 19 8 rfl rfl rfl (by decide +kernel) (Nat.le_of_ble_eq_true rfl) ?_
  refine hw_ald (b := 1) (e := 0) (by decide +kernel) rfl (by decide) ?_
  refine hr_gr (w := 46) (b := 4) (e := 8) 43 rfl (by decide +kernel) ?_
  refine hw_k (c := 0) (b := 0) (e := 1) (by decide +kernel) ?_
  refine hw_ald (b := 0) (e := 0) (by decide +kernel) rfl (by decide) ?_
  refine hr_gr (w := 20) (b := 4) (e := 8) 17 rfl (by decide +kernel) ?_
  refine hw_k (c := 0) (b := 0) (e := 1) (by decide +kernel) ?_
  refine hw_k (c := 6) (b := 1) (e := 2) (by decide +kernel) ?_
  refine hr_cp (a0 := 0) (b0 := 0) (e := 0) 46 20 6 rfl rfl rfl (by decide +kernel) (Nat.le_of_ble_eq_true rfl) ?_
  refine hw_ald (b := 1) (e := 0) (by decide +kernel) rfl (by decide) ?_
  refine hr_gr (w := 47) (b := 4) (e := 9) 43 rfl (by decide +kernel) ?_
  refine hw_k (c := 0) (b := 0) (e := 1) (by decide +kernel) ?_
  refine hw_ald (b := 0) (e := 0) (by decide +kernel) rfl (by decide) ?_
  refine hr_gr (w := 21) (b := 4) (e := 9) 17 rfl (by decide +kernel) ?_
  refine hw_k (c := 0) (b := 0) (e := 1) (by decide +kernel) ?_
  refine hw_k (c := 6) (b := 1) (e := 2) (by decide +kernel) ?_
  refine hr_cp (a0 := 0) (b0 := 0) (e := 0) 47 21 6 rfl rfl rfl (by decide +kernel) (Nat.le_of_ble_eq_true rfl) ?_
  refine hw_ald (b := 1) (e := 0) (by decide +kernel) rfl (by decide) ?_
  refine hr_gr (w := 48) (b := 4) (e := 10) 43 rfl (by decide +kernel) ?_
  refine hw_k (c := 0) (b := 0) (e := 1) (by decide +kernel) ?_
  refine hw_ald (b := 0) (e := 0) (by decide +kernel) rfl (by decide) ?_
  refine hr_gr (w := 22) (b := 4) (e := 10) 17 rfl (by decide +kernel) ?_
  refine hw_k (c := 0) (b := 0) (e := 1) (by decide +kernel) ?_
  refine hw_k (c := 36) (b := 1) (e := 2) (by decide +kernel) ?_
  refine hr_cp (a0 := 0) (b0 := 0) (e := 0) 48 22 36 rfl rfl rfl (by decide +kernel) (Nat.le_of_ble_eq_true rfl) ?_
  refine hw_ald (b := 1) (e := 0) (by decide +kernel) rfl (by decide) ?_
  refine hr_gr (w := 49) (b := 4) (e := 11) 43 rfl (by decide +kernel) ?_
  refine hw_k (c := 0) (b := 0) (e := 1) (by decide +kernel) ?_
  refine hw_ald (b := 0) (e := 0) (by decide +kernel) rfl (by decide) ?_
  refine hr_gr (w := 23) (b := 4) (e := 11) 17 rfl (by decide +kernel) ?_
  refine hw_k (c := 0) (b := 0) (e := 1) (by decide +kernel) ?_
  refine hw_k (c := 6) (b := 1) (e := 2) (by decide +kernel) ?_
  refine hr_cp (a0 := 0) (b0 := 0) (e := 0) 49 23 6 rfl rfl rfl (by decide +kernel) (Nat.le_of_ble_eq_true rfl) ?_
  refine hw_ald (b := 1) (e := 0) (by decide +kernel) rfl (by decide) ?_
  refine hr_gr (w := 50) (b := 4) (e := 12) 43 rfl (by decide +kernel) ?_
  refine hw_k (c := 0) (b := 0) (e := 1) (by decide +kernel) ?_
  refine hw_ald (b := 0) (e := 0) (by decide +kernel) rfl (by decide) ?_
  refine hr_gr (w := 24) (b := 4) (e := 12) 17 rfl (by decide +kernel) ?_
  refine hw_k (c := 0) (b := 0) (e := 1) (by decide +kernel) ?_
  refine hw_k (c := 6) (b := 1) (e := 2) (by decide +kernel) ?_
  refine hr_cp (a0 := 0) (b0 := 0) (e := 0) 50 24 6 rfl rfl rfl (by decide +kernel) (Nat.le_of_ble_eq_true rfl) ?_
  refine hw_ald (b := 1) (e := 0) (by decide +kernel) rfl (by decide) ?_
  refine hr_gr (w := 51) (b := 4) (e := 13) 43 rfl (by decide +kernel) ?_
  refine hw_k (c := 0) (b := 0) (e := 1) (by decide +kernel) ?_
  refine hw_ald (b := 0) (e := 0) (by decide +kernel) rfl (by decide) ?_
  refine hr_gr (w := 25) (b := 4) (e := 13) 17 rfl (by decide +kernel) ?_
  refine hw_k (c := 0) (b := 0) (e := 1) (by decide +kernel) ?_
  refine hw_k (c := 8) (b := 1) (e := 2) (by decide +kernel) ?_
  refine hr_cp (a0 := 0) (b0 := 0) (e := 0) 51 25 8 rfl rfl rfl (by decide +kernel) (Nat.le_of_ble_eq_true rfl) ?_
  exact hw_vret (a0 := 0) (e := 0) (by decide +kernel) H
theorem sf_66_17_43 {sc : List Int} {d : Nat} {φ : hf_F} {x : Nat} {Q : Option jm_V → hf_F → Nat → Prop}  (hI : Inv φ)  (hQ : ∀ ψ : hf_F, Inv ψ → Fr [18, 19, 20, 21, 22, 23, 24, 25, 18000, 18001, 18002, 18003, 18004, 18005] φ ψ → F_State_copyFrom_17_43 φ = ψ → Q none ψ x) : hw sc d 66 0 [(0, (2, 17)), (1, (2, 43))] [] φ x Q := by
  apply sf_66_17_43_v
  have e0 : F_State_copyFrom_17_43 φ = _ := rfl
  have i1 : Inv (hf_up φ 17 0 (φ 43 0)) := iv_upn hI (by decide) (by decide) (by decide +kernel)
  have r1 : Fr [18, 19, 20, 21, 22, 23, 24, 25, 18000, 18001, 18002, 18003, 18004, 18005] φ (hf_up φ 17 0 (φ 43 0)) := fr_up (fr_rf) (by decide)
  have f2 := iv_at (a := 43) (k := 1) (lo := (-1 : Int)) (u := 7) hI (by decide +kernel)
  have i3 : Inv (hf_up (hf_up φ 17 0 (φ 43 0)) 17 1 (φ 43 1)) := iv_up (lo := (-1 : Int)) (u := 7) i1 (by decide +kernel) (by omega) (by omega)
  have r3 : Fr [18, 19, 20, 21, 22, 23, 24, 25, 18000, 18001, 18002, 18003, 18004, 18005] φ (hf_up (hf_up φ 17 0 (φ 43 0)) 17 1 (φ 43 1)) := fr_up r1 (by decide)
  have f4 := iv_at (a := 43) (k := 2) (lo := (-1 : Int)) (u := 5) hI (by decide +kernel)
  have i5 : Inv (hf_up (hf_up (hf_up φ 17 0 (φ 43 0)) 17 1 (φ 43 1)) 17 2 (φ 43 2)) := iv_up (lo := (-1 : Int)) (u := 5) i3 (by decide +kernel) (by omega) (by omega)
  have r5 : Fr [18, 19, 20, 21, 22, 23, 24, 25, 18000, 18001, 18002, 18003, 18004, 18005] φ (hf_up (hf_up (hf_up φ 17 0 (φ 43 0)) 17 1 (φ 43 1)) 17 2 (φ 43 2)) := fr_up r3 (by decide)
  have f6 := iv_at (a := 43) (k := 3) (lo := (-2147483648 : Int)) (u := 2147483647) hI (by decide +kernel)
  have i7 : Inv (hf_up (hf_up (hf_up (hf_up φ 17 0 (φ 43 0)) 17 1 (φ 43 1)) 17 2 (φ 43 2)) 17 3 (φ 43 3)) := iv_up (lo := (-2147483648 : Int)) (u := 2147483647) i5 (by decide +kernel) (by omega) (by omega)
  have r7 : Fr [18, 19, 20, 21, 22, 23, 24, 25, 18000, 18001, 18002, 18003, 18004, 18005] φ (hf_up (hf_up (hf_up (hf_up φ 17 0 (φ 43 0)) 17 1 (φ 43 1)) 17 2 (φ 43 2)) 17 3 (φ 43 3)) := fr_up r5 (by decide)
  have i8 : Inv (hf_up (hf_up (hf_up (hf_up (hf_up φ 17 0 (φ 43 0)) 17 1 (φ 43 1)) 17 2 (φ 43 2)) 17 3 (φ 43 3)) 17 4 (φ 43 4)) := iv_upn i7 (by decide) (by decide) (by decide +kernel)
  have r8 : Fr [18, 19, 20, 21, 22, 23, 24, 25, 18000, 18001, 18002, 18003, 18004, 18005] φ (hf_up (hf_up (hf_up (hf_up (hf_up φ 17 0 (φ 43 0)) 17 1 (φ 43 1)) 17 2 (φ 43 2)) 17 3 (φ 43 3)) 17 4 (φ 43 4)) := fr_up r7 (by decide)
  have i9 : Inv (hf_up (hf_up (hf_up (hf_up (hf_up (hf_up φ 17 0 (φ 43 0)) 17 1 (φ 43 1)) 17 2 (φ 43 2)) 17 3 (φ 43 3)) 17 4 (φ 43 4)) 17 5 (φ 43 5)) := iv_upn i8 (by decide) (by decide) (by decide +kernel)
  have r9 : Fr [18, 19, 20, 21, 22, 23, 24, 25, 18000, 18001, 18002, 18003, 18004, 18005] φ (hf_up (hf_up (hf_up (hf_up (hf_up (hf_up φ 17 0 (φ 43 0)) 17 1 (φ 43 1)) 17 2 (φ 43 2)) 17 3 (φ 43 3)) 17 4 (φ 43 4)) 17 5 (φ 43 5)) := fr_up r8 (by decide)
  have i10 : Inv (hf_cp (hf_up (hf_up (hf_up (hf_up (hf_up (hf_up φ 17 0 (φ 43 0)) 17 1 (φ 43 1)) 17 2 (φ 43 2)) 17 3 (φ 43 3)) 17 4 (φ 43 4)) 17 5 (φ 43 5)) 44 18 8) := iv_cp i9 (by decide) (by decide +kernel)
  have r10 : Fr [18, 19, 20, 21, 22, 23, 24, 25, 18000, 18001, 18002, 18003, 18004, 18005] φ (hf_cp (hf_up (hf_up (hf_up (hf_up (hf_up (hf_up φ 17 0 (φ 43 0)) 17 1 (φ 43 1)) 17 2 (φ 43 2)) 17 3 (φ 43 3)) 17 4 (φ 43 4)) 17 5 (φ 43 5)) 44 18 8) := fr_cp r9 (by decide)
  have i11 : Inv (hf_cp (hf_cp (hf_up (hf_up (hf_up (hf_up (hf_up (hf_up φ 17 0 (φ 43 0)) 17 1 (φ 43 1)) 17 2 (φ 43 2)) 17 3 (φ 43 3)) 17 4 (φ 43 4)) 17 5 (φ 43 5)) 44 18 8) 45 19 8) := iv_cp i10 (by decide) (by decide +kernel)
  have r11 : Fr [18, 19, 20, 21, 22, 23, 24, 25, 18000, 18001, 18002, 18003, 18004, 18005] φ (hf_cp (hf_cp (hf_up (hf_up (hf_up (hf_up (hf_up (hf_up φ 17 0 (φ 43 0)) 17 1 (φ 43 1)) 17 2 (φ 43 2)) 17 3 (φ 43 3)) 17 4 (φ 43 4)) 17 5 (φ 43 5)) 44 18 8) 45 19 8) := fr_cp r10 (by decide)
  have i12 : Inv (hf_cp (hf_cp (hf_cp (hf_up (hf_up (hf_up (hf_up (hf_up (hf_up φ 17 0 (φ 43 0)) 17 1 (φ 43 1)) 17 2 (φ 43 2)) 17 3 (φ 43 3)) 17 4 (φ 43 4)) 17 5 (φ 43 5)) 44 18 8) 45 19 8) 46 20 6) := iv_cp i11 (by decide) (by decide +kernel)
  have r12 : Fr [18, 19, 20, 21, 22, 23, 24, 25, 18000, 18001, 18002, 18003, 18004, 18005] φ (hf_cp (hf_cp (hf_cp (hf_up (hf_up (hf_up (hf_up (hf_up (hf_up φ 17 0 (φ 43 0)) 17 1 (φ 43 1)) 17 2 (φ 43 2)) 17 3 (φ 43 3)) 17 4 (φ 43 4)) 17 5 (φ 43 5)) 44 18 8) 45 19 8) 46 20 6) := fr_cp r11 (by decide)
  have i13 : Inv (hf_cp (hf_cp (hf_cp (hf_cp (hf_up (hf_up (hf_up (hf_up (hf_up (hf_up φ 17 0 (φ 43 0)) 17 1 (φ 43 1)) 17 2 (φ 43 2)) 17 3 (φ 43 3)) 17 4 (φ 43 4)) 17 5 (φ 43 5)) 44 18 8) 45 19 8) 46 20 6) 47 21 6) := iv_cp i12 (by decide) (by decide +kernel)
  have r13 : Fr [18, 19, 20, 21, 22, 23, 24, 25, 18000, 18001, 18002, 18003, 18004, 18005] φ (hf_cp (hf_cp (hf_cp (hf_cp (hf_up (hf_up (hf_up (hf_up (hf_up (hf_up φ 17 0 (φ 43 0)) 17 1 (φ 43 1)) 17 2 (φ 43 2)) 17 3 (φ 43 3)) 17 4 (φ 43 4)) 17 5 (φ 43 5)) 44 18 8) 45 19 8) 46 20 6) 47 21 6) := fr_cp r12 (by decide)
  have i14 : Inv (hf_cp (hf_cp (hf_cp (hf_cp (hf_cp (hf_up (hf_up (hf_up (hf_up (hf_up (hf_up φ 17 0 (φ 43 0)) 17 1 (φ 43 1)) 17 2 (φ 43 2)) 17 3 (φ 43 3)) 17 4 (φ 43 4)) 17 5 (φ 43 5)) 44 18 8) 45 19 8) 46 20 6) 47 21 6) 48 22 36) := iv_cp i13 (by decide) (by decide +kernel)
  have r14 : Fr [18, 19, 20, 21, 22, 23, 24, 25, 18000, 18001, 18002, 18003, 18004, 18005] φ (hf_cp (hf_cp (hf_cp (hf_cp (hf_cp (hf_up (hf_up (hf_up (hf_up (hf_up (hf_up φ 17 0 (φ 43 0)) 17 1 (φ 43 1)) 17 2 (φ 43 2)) 17 3 (φ 43 3)) 17 4 (φ 43 4)) 17 5 (φ 43 5)) 44 18 8) 45 19 8) 46 20 6) 47 21 6) 48 22 36) := fr_cp r13 (by decide)
  have i15 : Inv (hf_cp (hf_cp (hf_cp (hf_cp (hf_cp (hf_cp (hf_up (hf_up (hf_up (hf_up (hf_up (hf_up φ 17 0 (φ 43 0)) 17 1 (φ 43 1)) 17 2 (φ 43 2)) 17 3 (φ 43 3)) 17 4 (φ 43 4)) 17 5 (φ 43 5)) 44 18 8) 45 19 8) 46 20 6) 47 21 6) 48 22 36) 49 23 6) := iv_cp i14 (by decide) (by decide +kernel)
  have r15 : Fr [18, 19, 20, 21, 22, 23, 24, 25, 18000, 18001, 18002, 18003, 18004, 18005] φ (hf_cp (hf_cp (hf_cp (hf_cp (hf_cp (hf_cp (hf_up (hf_up (hf_up (hf_up (hf_up (hf_up φ 17 0 (φ 43 0)) 17 1 (φ 43 1)) 17 2 (φ 43 2)) 17 3 (φ 43 3)) 17 4 (φ 43 4)) 17 5 (φ 43 5)) 44 18 8) 45 19 8) 46 20 6) 47 21 6) 48 22 36) 49 23 6) := fr_cp r14 (by decide)
  have i16 : Inv (hf_cp (hf_cp (hf_cp (hf_cp (hf_cp (hf_cp (hf_cp (hf_up (hf_up (hf_up (hf_up (hf_up (hf_up φ 17 0 (φ 43 0)) 17 1 (φ 43 1)) 17 2 (φ 43 2)) 17 3 (φ 43 3)) 17 4 (φ 43 4)) 17 5 (φ 43 5)) 44 18 8) 45 19 8) 46 20 6) 47 21 6) 48 22 36) 49 23 6) 50 24 6) := iv_cp i15 (by decide) (by decide +kernel)
  have r16 : Fr [18, 19, 20, 21, 22, 23, 24, 25, 18000, 18001, 18002, 18003, 18004, 18005] φ (hf_cp (hf_cp (hf_cp (hf_cp (hf_cp (hf_cp (hf_cp (hf_up (hf_up (hf_up (hf_up (hf_up (hf_up φ 17 0 (φ 43 0)) 17 1 (φ 43 1)) 17 2 (φ 43 2)) 17 3 (φ 43 3)) 17 4 (φ 43 4)) 17 5 (φ 43 5)) 44 18 8) 45 19 8) 46 20 6) 47 21 6) 48 22 36) 49 23 6) 50 24 6) := fr_cp r15 (by decide)
  have i17 : Inv (hf_cp (hf_cp (hf_cp (hf_cp (hf_cp (hf_cp (hf_cp (hf_cp (hf_up (hf_up (hf_up (hf_up (hf_up (hf_up φ 17 0 (φ 43 0)) 17 1 (φ 43 1)) 17 2 (φ 43 2)) 17 3 (φ 43 3)) 17 4 (φ 43 4)) 17 5 (φ 43 5)) 44 18 8) 45 19 8) 46 20 6) 47 21 6) 48 22 36) 49 23 6) 50 24 6) 51 25 8) := iv_cp i16 (by decide) (by decide +kernel)
  have r17 : Fr [18, 19, 20, 21, 22, 23, 24, 25, 18000, 18001, 18002, 18003, 18004, 18005] φ (hf_cp (hf_cp (hf_cp (hf_cp (hf_cp (hf_cp (hf_cp (hf_cp (hf_up (hf_up (hf_up (hf_up (hf_up (hf_up φ 17 0 (φ 43 0)) 17 1 (φ 43 1)) 17 2 (φ 43 2)) 17 3 (φ 43 3)) 17 4 (φ 43 4)) 17 5 (φ 43 5)) 44 18 8) 45 19 8) 46 20 6) 47 21 6) 48 22 36) 49 23 6) 50 24 6) 51 25 8) := fr_cp r16 (by decide)
  exact hQ (hf_cp (hf_cp (hf_cp (hf_cp (hf_cp (hf_cp (hf_cp (hf_cp (hf_up (hf_up (hf_up (hf_up (hf_up (hf_up φ 17 0 (φ 43 0)) 17 1 (φ 43 1)) 17 2 (φ 43 2)) 17 3 (φ 43 3)) 17 4 (φ 43 4)) 17 5 (φ 43 5)) 44 18 8) 45 19 8) 46 20 6) 47 21 6) 48 22 36) 49 23 6) 50 24 6) 51 25 8) i17 r17 e0
theorem sf_79_17_v {sc : List Int} {d : Nat} {φ : hf_F} {x : Nat} {Q : Option jm_V → hf_F → Nat → Prop} {v1 v2 : Int}
    (H : 0 ≤ v1 ∧ v1 < 6 ∧ (hi (φ 20 ((v1).toNat)) ∧ hi (-1 : Int) ∧ ((φ 20 ((v1).toNat)) = (-1 : Int) → 0 ≤ v2 ∧ v2 < 8 ∧ (hi (φ 19 ((v2).toNat)) ∧ hi (-1 : Int) ∧ ((φ 19 ((v2).toNat)) = (-1 : Int) → Q (some (0, 0)) φ x) ∧ (¬ (φ 19 ((v2).toNat)) = (-1 : Int) → Q (some (0, 2)) φ x))) ∧ (¬ (φ 20 ((v1).toNat)) = (-1 : Int) → Q (some (0, 1)) φ x))) :
    hw sc d 79 0 [(0, (2, 17)), (1, (0, v1)), (2, (0, v2))] [] φ x Q := by
  refine hw_ald (b := 0) (e := 0) (by decide +kernel) rfl (by decide) ?_
  refine hr_gr (w := 20) (b := 4) (e := 8) 17 rfl (by decide +kernel) ?_
  refine hw_ld (b := 1) (e := 0) (by decide +kernel) rfl ?_
  obtain ⟨hl1, hu1, H⟩ := H
  refine hr_al (b := 0) (a0 := 0) (e := 0) (n := 6) (w := φ 20 ((v1).toNat)) 20 rfl (by decide +kernel) (by decide) hl1 hu1 rfl ?_
  refine hw_k (c := (-1 : Int)) (b := 0) (e := 1) (by decide +kernel) ?_
  obtain ⟨hz2, hy2, ht2, hf2⟩ := H
  refine hw_if2 (a0 := 0) (b := 0) (e := 12) (by decide +kernel) hz2 hy2 (fun q => ?_) (fun q => ?_)
  · have H := ht2 q
    refine hw_ald (b := 0) (e := 0) (by decide +kernel) rfl (by decide) ?_
    refine hr_gr (w := 19) (b := 4) (e := 7) 17 rfl (by decide +kernel) ?_
    refine hw_ld (b := 2) (e := 0) (by decide +kernel) rfl ?_
    obtain ⟨hl3, hu3, H⟩ := H
    refine hr_al (b := 0) (a0 := 0) (e := 0) (n := 8) (w := φ 19 ((v2).toNat)) 19 rfl (by decide +kernel) (by decide) hl3 hu3 rfl ?_
    refine hw_k (c := (-1 : Int)) (b := 0) (e := 1) (by decide +kernel) ?_
    obtain ⟨hz4, hy4, ht4, hf4⟩ := H
    refine hw_if2 (a0 := 0) (b := 0) (e := 26) (by decide +kernel) hz4 hy4 (fun q => ?_) (fun q => ?_)
    · have H := ht4 q
      refine hw_k (c := 0) (b := 0) (e := 1) (by decide +kernel) ?_
      exact hw_ret (a0 := 0) (e := 0) (by decide +kernel) (Or.inl rfl) H
    · have H := hf4 q
      refine hw_k (c := 2) (b := 0) (e := 1) (by decide +kernel) ?_
      refine hw_goto (a0 := 0) (b := 0) (e := 27) (by decide +kernel) ?_
      exact hw_ret (a0 := 0) (e := 0) (by decide +kernel) (Or.inl rfl) H
  · have H := hf2 q
    refine hw_k (c := 1) (b := 0) (e := 1) (by decide +kernel) ?_
    exact hw_ret (a0 := 0) (e := 0) (by decide +kernel) (Or.inl rfl) H
theorem sf_79_17 {sc : List Int} {d : Nat} {φ : hf_F} {x : Nat} {Q : Option jm_V → hf_F → Nat → Prop} {v1 v2 : Int} (hI : Inv φ) (h1a : 0 ≤ v1) (h1b : v1 ≤ 5) (h2a : 0 ≤ v2) (h2b : v2 ≤ 7) (hQ : ∀ (r : Int), 0 ≤ r ∧ r ≤ 2 → F_State_whyNotMount_17 φ v1 v2 = r → Q (some (0, r)) φ x) : hw sc d 79 0 [(0, (2, 17)), (1, (0, v1)), (2, (0, v2))] [] φ x Q := by
  apply sf_79_17_v
  have e0 : F_State_whyNotMount_17 φ v1 v2 = _ := rfl
  refine ⟨by omega, by omega, ?_⟩
  have f1 := iv_ar (a := 20) (s := 0) (t := 6) (lo := (-1 : Int)) (u := 7) (z := v1) hI (by decide +kernel) (by omega) (by omega)
  refine ⟨by unfold hi; omega, by unfold hi; omega, fun q2 => ?_, fun q2 => ?_⟩
  · skip
    have e2a := e0.trans (if_pos q2)
    refine ⟨by omega, by omega, ?_⟩
    have f2 := iv_ar (a := 19) (s := 0) (t := 8) (lo := (-1 : Int)) (u := 5) (z := v2) hI (by decide +kernel) (by omega) (by omega)
    refine ⟨by unfold hi; omega, by unfold hi; omega, fun q4 => ?_, fun q4 => ?_⟩
    · skip
      have e4a := e2a.trans (if_pos q4)
      exact hQ 0 ⟨by omega, by omega⟩ e4a
    · skip
      have e4b := e2a.trans (if_neg q4)
      exact hQ 2 ⟨by omega, by omega⟩ e4b
  · skip
    have e2b := e0.trans (if_neg q2)
    exact hQ 1 ⟨by omega, by omega⟩ e2b
theorem sf_87_17_v {sc : List Int} {d : Nat} {φ : hf_F} {x : Nat} {Q : Option jm_V → hf_F → Nat → Prop} 
    (H : hi (φ 17 3) ∧ (¬ (φ 17 3) = 0 → Q (some (0, 0)) φ x) ∧ (¬ (¬ (φ 17 3) = 0) → hi (φ 17 1) ∧ hi (-1 : Int) ∧ (¬ (φ 17 1) = (-1 : Int) → Q (some (0, 0)) φ x) ∧ (¬ (¬ (φ 17 1) = (-1 : Int)) → Q (some (0, 1)) φ x))) :
    hw sc d 87 0 [(0, (2, 17))] [] φ x Q := by
  refine hw_ald (b := 0) (e := 0) (by decide +kernel) rfl (by decide) ?_
  refine hr_gi (w := φ 17 3) (b := 4) (e := 3) 17 rfl (by decide +kernel) rfl ?_
  obtain ⟨hz1, ht1, hf1⟩ := H
  refine hw_if (a0 := 0) (b := 1) (e := 19) (by decide +kernel) hz1 (fun q => ?_) (fun q => ?_)
  · have H := ht1 q
    refine hw_k (c := 0) (b := 0) (e := 1) (by decide +kernel) ?_
    exact hw_ret (a0 := 0) (e := 0) (by decide +kernel) (Or.inl rfl) H
  · have H := hf1 q
    refine hw_ald (b := 0) (e := 0) (by decide +kernel) rfl (by decide) ?_
    refine hr_gi (w := φ 17 1) (b := 4) (e := 1) 17 rfl (by decide +kernel) rfl ?_
    refine hw_k (c := (-1 : Int)) (b := 0) (e := 1) (by decide +kernel) ?_
    obtain ⟨hz3, hy3, ht3, hf3⟩ := H
    refine hw_if2 (a0 := 0) (b := 1) (e := 19) (by decide +kernel) hz3 hy3 (fun q => ?_) (fun q => ?_)
    · have H := ht3 q
      refine hw_k (c := 0) (b := 0) (e := 1) (by decide +kernel) ?_
      exact hw_ret (a0 := 0) (e := 0) (by decide +kernel) (Or.inl rfl) H
    · have H := hf3 q
      refine hw_k (c := 1) (b := 0) (e := 1) (by decide +kernel) ?_
      refine hw_goto (a0 := 0) (b := 0) (e := 20) (by decide +kernel) ?_
      exact hw_ret (a0 := 0) (e := 0) (by decide +kernel) (Or.inl rfl) H
theorem sf_87_17 {sc : List Int} {d : Nat} {φ : hf_F} {x : Nat} {Q : Option jm_V → hf_F → Nat → Prop}  (hI : Inv φ)  (hQ : ∀ (r : Int), 0 ≤ r ∧ r ≤ 1 → F_State_whyNotWhistle_17 φ = r → Q (some (0, r)) φ x) : hw sc d 87 0 [(0, (2, 17))] [] φ x Q := by
  apply sf_87_17_v
  have e0 : F_State_whyNotWhistle_17 φ = _ := rfl
  have f1 := iv_at (a := 17) (k := 3) (lo := (-2147483648 : Int)) (u := 2147483647) hI (by decide +kernel)
  refine ⟨by unfold hi; omega, fun q1 => ?_, fun q1 => ?_⟩
  · skip
    have e1a := e0.trans (if_pos q1)
    exact hQ 0 ⟨by omega, by omega⟩ e1a
  · skip
    have e1b := e0.trans (if_neg q1)
    have f2 := iv_at (a := 17) (k := 1) (lo := (-1 : Int)) (u := 7) hI (by decide +kernel)
    refine ⟨by unfold hi; omega, by unfold hi; omega, fun q3 => ?_, fun q3 => ?_⟩
    · skip
      have e3a := e1b.trans (if_pos q3)
      exact hQ 0 ⟨by omega, by omega⟩ e3a
    · skip
      have e3b := e1b.trans (if_neg q3)
      exact hQ 1 ⟨by omega, by omega⟩ e3b
theorem sf_52_17_v {sc : List Int} {d : Nat} {φ : hf_F} {x : Nat} {Q : Option jm_V → hf_F → Nat → Prop} {v1 v2 : Int}
    (H : 0 ≤ v1 ∧ v1 < 6 ∧ (0 ≤ v2 ∧ v2 < 8 ∧ (Q none (hf_up (hf_up φ 20 ((v1).toNat) v2) 19 ((v2).toNat) v1) x))) :
    hw sc d 52 0 [(0, (2, 17)), (1, (0, v1)), (2, (0, v2))] [] φ x Q := by
  refine hw_ald (b := 0) (e := 0) (by decide +kernel) rfl (by decide) ?_
  refine hr_gr (w := 20) (b := 4) (e := 8) 17 rfl (by decide +kernel) ?_
  refine hw_ld (b := 1) (e := 0) (by decide +kernel) rfl ?_
  refine hw_ld (b := 2) (e := 0) (by decide +kernel) rfl ?_
  obtain ⟨hl1, hu1, H⟩ := H
  refine hr_as (a0 := 0) (e := 4) (n := 6) 20 rfl (by decide +kernel) hl1 hu1 ?_
  refine hw_ald (b := 0) (e := 0) (by decide +kernel) rfl (by decide) ?_
  refine hr_gr (w := 19) (b := 4) (e := 7) 17 rfl (by decide +kernel) ?_
  refine hw_ld (b := 2) (e := 0) (by decide +kernel) rfl ?_
  refine hw_ld (b := 1) (e := 0) (by decide +kernel) rfl ?_
  obtain ⟨hl2, hu2, H⟩ := H
  refine hr_as (a0 := 0) (e := 4) (n := 8) 19 rfl (by decide +kernel) hl2 hu2 ?_
  exact hw_vret (a0 := 0) (e := 0) (by decide +kernel) H
theorem sf_52_17 {sc : List Int} {d : Nat} {φ : hf_F} {x : Nat} {Q : Option jm_V → hf_F → Nat → Prop} {v1 v2 : Int} (hI : Inv φ) (h1a : 0 ≤ v1) (h1b : v1 ≤ 5) (h2a : 0 ≤ v2) (h2b : v2 ≤ 7) (hQ : ∀ ψ : hf_F, Inv ψ → Fr [19, 20] φ ψ → F_State_sitDown_17 φ v1 v2 = ψ → Q none ψ x) : hw sc d 52 0 [(0, (2, 17)), (1, (0, v1)), (2, (0, v2))] [] φ x Q := by
  apply sf_52_17_v
  have e0 : F_State_sitDown_17 φ v1 v2 = _ := rfl
  refine ⟨by omega, by omega, ?_⟩
  have i1 : Inv (hf_up φ 20 ((v1).toNat) v2) := iv_upI (s := 0) (t := 6) (lo := (-1 : Int)) (u := 7) (z := v1) hI (by decide +kernel) (by omega) (by omega) (by omega) (by omega)
  have r1 : Fr [19, 20] φ (hf_up φ 20 ((v1).toNat) v2) := fr_upa (fr_rf) (by decide)
  refine ⟨by omega, by omega, ?_⟩
  have i2 : Inv (hf_up (hf_up φ 20 ((v1).toNat) v2) 19 ((v2).toNat) v1) := iv_upI (s := 0) (t := 8) (lo := (-1 : Int)) (u := 5) (z := v2) i1 (by decide +kernel) (by omega) (by omega) (by omega) (by omega)
  have r2 : Fr [19, 20] φ (hf_up (hf_up φ 20 ((v1).toNat) v2) 19 ((v2).toNat) v1) := fr_upa r1 (by decide)
  exact hQ (hf_up (hf_up φ 20 ((v1).toNat) v2) 19 ((v2).toNat) v1) i2 r2 e0
theorem sf_84_17_v {sc : List Int} {d : Nat} {φ : hf_F} {x : Nat} {Q : Option jm_V → hf_F → Nat → Prop} {v1 : Int}
    (H : 0 ≤ v1 ∧ v1 < 6 ∧ (hi (φ 20 ((v1).toNat)) ∧ hi (-1 : Int) ∧ ((φ 20 ((v1).toNat)) = (-1 : Int) → 0 ≤ v1 ∧ v1 < 6 ∧ (Q none (hf_up φ 20 ((v1).toNat) (-1 : Int)) x)) ∧ (¬ (φ 20 ((v1).toNat)) = (-1 : Int) → 0 ≤ (φ 20 ((v1).toNat)) ∧ (φ 20 ((v1).toNat)) < 8 ∧ (0 ≤ v1 ∧ v1 < 6 ∧ (Q none (hf_up (hf_up φ 19 ((φ 20 ((v1).toNat)).toNat) (-1 : Int)) 20 ((v1).toNat) (-1 : Int)) x))))) :
    hw sc d 84 0 [(0, (2, 17)), (1, (0, v1))] [] φ x Q := by
  refine hw_ald (b := 0) (e := 0) (by decide +kernel) rfl (by decide) ?_
  refine hr_gr (w := 20) (b := 4) (e := 8) 17 rfl (by decide +kernel) ?_
  refine hw_ld (b := 1) (e := 0) (by decide +kernel) rfl ?_
  obtain ⟨hl1, hu1, H⟩ := H
  refine hr_al (b := 0) (a0 := 0) (e := 0) (n := 6) (w := φ 20 ((v1).toNat)) 20 rfl (by decide +kernel) (by decide) hl1 hu1 rfl ?_
  refine hw_st (L' := (jm_st1 [(0, (2, 17)), (1, (0, v1))] 2 (0, φ 20 ((v1).toNat)))) (b := 2) (e := 0) (by decide +kernel) rfl ?_
  refine hw_ld (b := 2) (e := 0) (by decide +kernel) get_st1e ?_
  refine hw_k (c := (-1 : Int)) (b := 0) (e := 1) (by decide +kernel) ?_
  obtain ⟨hz2, hy2, ht2, hf2⟩ := H
  refine hw_if2 (a0 := 0) (b := 0) (e := 19) (by decide +kernel) hz2 hy2 (fun q => ?_) (fun q => ?_)
  · have H := ht2 q
    refine hw_ald (b := 0) (e := 0) (by decide +kernel) (get_st1 rfl (by decide) (fun q => absurd q.1 (by decide))) (by decide) ?_
    refine hr_gr (w := 20) (b := 4) (e := 8) 17 rfl (by decide +kernel) ?_
    refine hw_ld (b := 1) (e := 0) (by decide +kernel) (get_st1 rfl (by decide) (fun q => tg0 q.2)) ?_
    refine hw_k (c := (-1 : Int)) (b := 0) (e := 1) (by decide +kernel) ?_
    obtain ⟨hl3, hu3, H⟩ := H
    refine hr_as (a0 := 0) (e := 4) (n := 6) 20 rfl (by decide +kernel) hl3 hu3 ?_
    exact hw_vret (a0 := 0) (e := 0) (by decide +kernel) H
  · have H := hf2 q
    refine hw_ald (b := 0) (e := 0) (by decide +kernel) (get_st1 rfl (by decide) (fun q => absurd q.1 (by decide))) (by decide) ?_
    refine hr_gr (w := 19) (b := 4) (e := 7) 17 rfl (by decide +kernel) ?_
    refine hw_ld (b := 2) (e := 0) (by decide +kernel) get_st1e ?_
    refine hw_k (c := (-1 : Int)) (b := 0) (e := 1) (by decide +kernel) ?_
    obtain ⟨hl5, hu5, H⟩ := H
    refine hr_as (a0 := 0) (e := 4) (n := 8) 19 rfl (by decide +kernel) hl5 hu5 ?_
    refine hw_ald (b := 0) (e := 0) (by decide +kernel) (get_st1 rfl (by decide) (fun q => absurd q.1 (by decide))) (by decide) ?_
    refine hr_gr (w := 20) (b := 4) (e := 8) 17 rfl (by decide +kernel) ?_
    refine hw_ld (b := 1) (e := 0) (by decide +kernel) (get_st1 rfl (by decide) (fun q => tg0 q.2)) ?_
    refine hw_k (c := (-1 : Int)) (b := 0) (e := 1) (by decide +kernel) ?_
    obtain ⟨hl6, hu6, H⟩ := H
    refine hr_as (a0 := 0) (e := 4) (n := 6) 20 rfl (by decide +kernel) hl6 hu6 ?_
    exact hw_vret (a0 := 0) (e := 0) (by decide +kernel) H
theorem sf_84_17 {sc : List Int} {d : Nat} {φ : hf_F} {x : Nat} {Q : Option jm_V → hf_F → Nat → Prop} {v1 : Int} (hI : Inv φ) (h1a : 0 ≤ v1) (h1b : v1 ≤ 5) (hQ : ∀ ψ : hf_F, Inv ψ → Fr [19, 20] φ ψ → F_State_getOff_17 φ v1 = ψ → Q none ψ x) : hw sc d 84 0 [(0, (2, 17)), (1, (0, v1))] [] φ x Q := by
  apply sf_84_17_v
  have e0 : F_State_getOff_17 φ v1 = _ := rfl
  refine ⟨by omega, by omega, ?_⟩
  have f1 := iv_ar (a := 20) (s := 0) (t := 6) (lo := (-1 : Int)) (u := 7) (z := v1) hI (by decide +kernel) (by omega) (by omega)
  refine ⟨by unfold hi; omega, by unfold hi; omega, fun q2 => ?_, fun q2 => ?_⟩
  · skip
    have e2a := e0.trans (if_pos q2)
    refine ⟨by omega, by omega, ?_⟩
    have i2 : Inv (hf_up φ 20 ((v1).toNat) (-1 : Int)) := iv_upI (s := 0) (t := 6) (lo := (-1 : Int)) (u := 7) (z := v1) hI (by decide +kernel) (by omega) (by omega) (by omega) (by omega)
    have r2 : Fr [19, 20] φ (hf_up φ 20 ((v1).toNat) (-1 : Int)) := fr_upa (fr_rf) (by decide)
    exact hQ (hf_up φ 20 ((v1).toNat) (-1 : Int)) i2 r2 e2a
  · skip
    have e2b := e0.trans (if_neg q2)
    refine ⟨by omega, by omega, ?_⟩
    have i3 : Inv (hf_up φ 19 ((φ 20 ((v1).toNat)).toNat) (-1 : Int)) := iv_upI (s := 0) (t := 8) (lo := (-1 : Int)) (u := 5) (z := φ 20 ((v1).toNat)) hI (by decide +kernel) (by omega) (by omega) (by omega) (by omega)
    have r3 : Fr [19, 20] φ (hf_up φ 19 ((φ 20 ((v1).toNat)).toNat) (-1 : Int)) := fr_upa (fr_rf) (by decide)
    refine ⟨by omega, by omega, ?_⟩
    have i4 : Inv (hf_up (hf_up φ 19 ((φ 20 ((v1).toNat)).toNat) (-1 : Int)) 20 ((v1).toNat) (-1 : Int)) := iv_upI (s := 0) (t := 6) (lo := (-1 : Int)) (u := 7) (z := v1) i3 (by decide +kernel) (by omega) (by omega) (by omega) (by omega)
    have r4 : Fr [19, 20] φ (hf_up (hf_up φ 19 ((φ 20 ((v1).toNat)).toNat) (-1 : Int)) 20 ((v1).toNat) (-1 : Int)) := fr_upa r3 (by decide)
    exact hQ (hf_up (hf_up φ 19 ((φ 20 ((v1).toNat)).toNat) (-1 : Int)) 20 ((v1).toNat) (-1 : Int)) i4 r4 e2b
theorem sf_68_0_v {sc : List Int} {d : Nat} {φ : hf_F} {x : Nat} {Q : Option jm_V → hf_F → Nat → Prop} 
    (H : Q (some (0, φ 0 12)) φ x) :
    hw sc d 68 0 [(0, (2, 0))] [] φ x Q := by
  refine hw_ald (b := 0) (e := 0) (by decide +kernel) rfl (by decide) ?_
  refine hr_gi (w := φ 0 12) (b := 0) (e := 12) 0 rfl (by decide +kernel) rfl ?_
  exact hw_ret (a0 := 0) (e := 0) (by decide +kernel) (Or.inl rfl) H
theorem sf_68_0 {sc : List Int} {d : Nat} {φ : hf_F} {x : Nat} {Q : Option jm_V → hf_F → Nat → Prop}  (hI : Inv φ)  (hQ : ∀ (r : Int), True → F_RideLaws_fault_0 φ = r → Q (some (0, r)) φ x) : hw sc d 68 0 [(0, (2, 0))] [] φ x Q := by
  apply sf_68_0_v
  have e0 : F_RideLaws_fault_0 φ = _ := rfl
  have f1 := iv_at (a := 0) (k := 12) (lo := 0) (u := 4) hI (by decide +kernel)
  exact hQ (φ 0 12) trivial e0
theorem sf_105_0_v {sc : List Int} {d : Nat} {φ : hf_F} {x : Nat} {Q : Option jm_V → hf_F → Nat → Prop} 
    (H : Q (some (0, φ 0 13)) φ x) :
    hw sc d 105 0 [(0, (2, 0))] [] φ x Q := by
  refine hw_ald (b := 0) (e := 0) (by decide +kernel) rfl (by decide) ?_
  refine hr_gi (w := φ 0 13) (b := 0) (e := 13) 0 rfl (by decide +kernel) rfl ?_
  exact hw_ret (a0 := 0) (e := 0) (by decide +kernel) (Or.inl rfl) H
theorem sf_105_0 {sc : List Int} {d : Nat} {φ : hf_F} {x : Nat} {Q : Option jm_V → hf_F → Nat → Prop}  (hI : Inv φ)  (hQ : ∀ (r : Int), True → F_RideLaws_aimSeat_0 φ = r → Q (some (0, r)) φ x) : hw sc d 105 0 [(0, (2, 0))] [] φ x Q := by
  apply sf_105_0_v
  have e0 : F_RideLaws_aimSeat_0 φ = _ := rfl
  have f1 := iv_at (a := 0) (k := 13) (lo := (-1 : Int)) (u := 7) hI (by decide +kernel)
  exact hQ (φ 0 13) trivial e0
theorem sf_114_0_v {sc : List Int} {d : Nat} {φ : hf_F} {x : Nat} {Q : Option jm_V → hf_F → Nat → Prop} 
    (H : Q (some (0, φ 0 14)) φ x) :
    hw sc d 114 0 [(0, (2, 0))] [] φ x Q := by
  refine hw_ald (b := 0) (e := 0) (by decide +kernel) rfl (by decide) ?_
  refine hr_gi (w := φ 0 14) (b := 0) (e := 14) 0 rfl (by decide +kernel) rfl ?_
  exact hw_ret (a0 := 0) (e := 0) (by decide +kernel) (Or.inl rfl) H
theorem sf_114_0 {sc : List Int} {d : Nat} {φ : hf_F} {x : Nat} {Q : Option jm_V → hf_F → Nat → Prop}  (hI : Inv φ)  (hQ : ∀ (r : Int), True → F_RideLaws_standing_0 φ = r → Q (some (0, r)) φ x) : hw sc d 114 0 [(0, (2, 0))] [] φ x Q := by
  apply sf_114_0_v
  have e0 : F_RideLaws_standing_0 φ = _ := rfl
  have f1 := iv_at (a := 0) (k := 14) (lo := (-2147483648 : Int)) (u := 2147483647) hI (by decide +kernel)
  exact hQ (φ 0 14) trivial e0
theorem sf_135_1_v {sc : List Int} {d : Nat} {φ : hf_F} {x : Nat} {Q : Option jm_V → hf_F → Nat → Prop} {v1 : Int}
    (H : hi (φ 1 5) ∧ hi 3 ∧ (¬ (φ 1 5) = 3 → Q (some (0, 0)) φ x) ∧ (¬ (¬ (φ 1 5) = 3) → hi (φ 1 7) ∧ hi v1 ∧ (¬ (φ 1 7) = v1 → Q (some (0, 0)) φ x) ∧ (¬ (¬ (φ 1 7) = v1) → Q (some (0, 1)) φ x))) :
    hw sc d 135 0 [(0, (2, 1)), (1, (0, v1))] [] φ x Q := by
  refine hw_ald (b := 0) (e := 0) (by decide +kernel) rfl (by decide) ?_
  refine hr_gi (w := φ 1 5) (b := 1) (e := 5) 1 rfl (by decide +kernel) rfl ?_
  refine hw_k (c := 3) (b := 0) (e := 1) (by decide +kernel) ?_
  obtain ⟨hz1, hy1, ht1, hf1⟩ := H
  refine hw_if2 (a0 := 0) (b := 1) (e := 20) (by decide +kernel) hz1 hy1 (fun q => ?_) (fun q => ?_)
  · have H := ht1 q
    refine hw_k (c := 0) (b := 0) (e := 1) (by decide +kernel) ?_
    exact hw_ret (a0 := 0) (e := 1) (by decide +kernel) (Or.inr ⟨rfl, by decide⟩) H
  · have H := hf1 q
    refine hw_ald (b := 0) (e := 0) (by decide +kernel) rfl (by decide) ?_
    refine hr_gi (w := φ 1 7) (b := 1) (e := 7) 1 rfl (by decide +kernel) rfl ?_
    refine hw_ld (b := 1) (e := 0) (by decide +kernel) rfl ?_
    obtain ⟨hz3, hy3, ht3, hf3⟩ := H
    refine hw_if2 (a0 := 0) (b := 1) (e := 20) (by decide +kernel) hz3 hy3 (fun q => ?_) (fun q => ?_)
    · have H := ht3 q
      refine hw_k (c := 0) (b := 0) (e := 1) (by decide +kernel) ?_
      exact hw_ret (a0 := 0) (e := 1) (by decide +kernel) (Or.inr ⟨rfl, by decide⟩) H
    · have H := hf3 q
      refine hw_k (c := 1) (b := 0) (e := 1) (by decide +kernel) ?_
      refine hw_goto (a0 := 0) (b := 0) (e := 21) (by decide +kernel) ?_
      exact hw_ret (a0 := 0) (e := 1) (by decide +kernel) (Or.inr ⟨rfl, by decide⟩) H
theorem sf_135_1 {sc : List Int} {d : Nat} {φ : hf_F} {x : Nat} {Q : Option jm_V → hf_F → Nat → Prop} {v1 : Int} (hI : Inv φ) (h1a : 0 ≤ v1) (h1b : v1 ≤ 22) (hQ : ∀ (r : Int), 0 ≤ r ∧ r ≤ 1 → F_Reader_isKeyword_1 φ v1 = r → Q (some (0, r)) φ x) : hw sc d 135 0 [(0, (2, 1)), (1, (0, v1))] [] φ x Q := by
  apply sf_135_1_v
  have e0 : F_Reader_isKeyword_1 φ v1 = _ := rfl
  have f1 := iv_at (a := 1) (k := 5) (lo := 0) (u := 5) hI (by decide +kernel)
  refine ⟨by unfold hi; omega, by unfold hi; omega, fun q1 => ?_, fun q1 => ?_⟩
  · skip
    have e1a := e0.trans (if_pos q1)
    exact hQ 0 ⟨by omega, by omega⟩ e1a
  · skip
    have e1b := e0.trans (if_neg q1)
    have f2 := iv_at (a := 1) (k := 7) (lo := (-128 : Int)) (u := 999) hI (by decide +kernel)
    refine ⟨by unfold hi; omega, by unfold hi; omega, fun q3 => ?_, fun q3 => ?_⟩
    · skip
      have e3a := e1b.trans (if_pos q3)
      exact hQ 0 ⟨by omega, by omega⟩ e3a
    · skip
      have e3b := e1b.trans (if_neg q3)
      exact hQ 1 ⟨by omega, by omega⟩ e3b
theorem sf_37_1_v {sc : List Int} {d : Nat} {φ : hf_F} {x : Nat} {Q : Option jm_V → hf_F → Nat → Prop} {v1 : Int}
    (H : Q (some (0, 0)) (hf_up (hf_up φ 1 9 v1) 1 10 (φ 1 6)) x) :
    hw sc d 37 0 [(0, (2, 1)), (1, (0, v1))] [] φ x Q := by
  refine hw_ald (b := 0) (e := 0) (by decide +kernel) rfl (by decide) ?_
  refine hw_ld (b := 1) (e := 0) (by decide +kernel) rfl ?_
  refine hr_pi (b := 1) (e := 9) 1 rfl (by decide +kernel) ?_
  refine hw_ald (b := 0) (e := 0) (by decide +kernel) rfl (by decide) ?_
  refine hw_ald (b := 0) (e := 0) (by decide +kernel) rfl (by decide) ?_
  refine hr_gi (w := φ 1 6) (b := 1) (e := 6) 1 rfl (by decide +kernel) (hf_up_ne (fun q => absurd q.2 (by decide))) ?_
  refine hr_pi (b := 1) (e := 10) 1 rfl (by decide +kernel) ?_
  refine hw_k (c := 0) (b := 0) (e := 1) (by decide +kernel) ?_
  exact hw_ret (a0 := 0) (e := 1) (by decide +kernel) (Or.inr ⟨rfl, by decide⟩) H
theorem sf_37_1 {sc : List Int} {d : Nat} {φ : hf_F} {x : Nat} {Q : Option jm_V → hf_F → Nat → Prop} {v1 : Int} (hI : Inv φ) (h1a : 1 ≤ v1) (h1b : v1 ≤ 4) (hQ : ∀ (r : Int) (ψ : hf_F), Inv ψ → Fr [2009, 2010] φ ψ → 0 ≤ r ∧ r ≤ 1 → F_Reader_refuse_1 φ v1 = (r, ψ) → Q (some (0, r)) ψ x) : hw sc d 37 0 [(0, (2, 1)), (1, (0, v1))] [] φ x Q := by
  apply sf_37_1_v
  have e0 : F_Reader_refuse_1 φ v1 = _ := rfl
  have i1 : Inv (hf_up φ 1 9 v1) := iv_up (lo := 0) (u := 4) hI (by decide +kernel) (by omega) (by omega)
  have r1 : Fr [2009, 2010] φ (hf_up φ 1 9 v1) := fr_up (fr_rf) (by decide)
  have f2 := iv_at (a := 1) (k := 6) (lo := 0) (u := 940) hI (by decide +kernel)
  have i3 : Inv (hf_up (hf_up φ 1 9 v1) 1 10 (φ 1 6)) := iv_up (lo := 0) (u := 940) i1 (by decide +kernel) (by omega) (by omega)
  have r3 : Fr [2009, 2010] φ (hf_up (hf_up φ 1 9 v1) 1 10 (φ 1 6)) := fr_up r1 (by decide)
  exact hQ 0 (hf_up (hf_up φ 1 9 v1) 1 10 (φ 1 6)) i3 r3 ⟨by omega, by omega⟩ e0
theorem sf_108_17_v4 {sc : List Int} {d : Nat} {φ : hf_F} {x : Nat} {Q : Option jm_V → hf_F → Nat → Prop} {L : jm_L} {l1 l2 l3 : Int} (g0 : jm_get L 0 = some (2, 17)) (g1 : jm_get L 1 = some (0, l1)) (g2 : jm_get L 2 = some (0, l2)) (g3 : jm_get L 3 = some (0, l3))
    (H : 0 ≤ l1 ∧ l1 < 6 ∧ (hi l3 ∧ hi (φ 21 ((l1).toNat)) ∧ ((φ 21 ((l1).toNat)) ≤ l3 → Q (some (0, l2)) φ x) ∧ (¬ (φ 21 ((l1).toNat)) ≤ l3 → hw sc d 71 0 [(0, (2, 17)), (1, (0, l1)), (2, (0, l3))] [] φ x (fun r ψ4 y4 => y4 = x ∧ φ = ψ4 ∧ (∃ z4 : Int, r = some (0, z4) ∧ (hw sc (d + 1) 108 4 (jm_st1 (jm_st1 L 2 (0, hb_or l2 (hb_shl 1 z4))) 3 (0, l3 + 1)) [] φ x Q)))))) :
    hw sc (d + 1) 108 4 L [] φ x Q := by
  refine hw_ld (b := 3) (e := 0) (by decide +kernel) g3 ?_
  refine hw_ald (b := 0) (e := 0) (by decide +kernel) g0 (by decide) ?_
  refine hr_gr (w := 21) (b := 4) (e := 9) 17 rfl (by decide +kernel) ?_
  refine hw_ld (b := 1) (e := 0) (by decide +kernel) g1 ?_
  obtain ⟨hl1, hu1, H⟩ := H
  refine hr_al (b := 0) (a0 := 0) (e := 0) (n := 6) (w := φ 21 ((l1).toNat)) 21 rfl (by decide +kernel) (by decide) hl1 hu1 rfl ?_
  obtain ⟨hz2, hy2, ht2, hf2⟩ := H
  refine hw_if2 (a0 := 0) (b := 3) (e := 31) (by decide +kernel) hz2 hy2 (fun q => ?_) (fun q => ?_)
  · have H := ht2 q
    refine hw_ld (b := 2) (e := 0) (by decide +kernel) g2 ?_
    exact hw_ret (a0 := 0) (e := 0) (by decide +kernel) (Or.inl rfl) H
  · have H := hf2 q
    refine hw_ld (b := 2) (e := 0) (by decide +kernel) g2 ?_
    refine hw_k (c := 1) (b := 0) (e := 1) (by decide +kernel) ?_
    refine hw_ald (b := 0) (e := 0) (by decide +kernel) g0 (by decide) ?_
    refine hw_ld (b := 1) (e := 0) (by decide +kernel) g1 ?_
    refine hw_ld (b := 3) (e := 0) (by decide +kernel) g3 ?_
    refine hr_call (a0 := 14) (b := 71) (e := 3) (nl := 3) (As := [(0, l1), (0, l3)]) (R := [(0, 1), (0, l2)]) 17 rfl (by decide +kernel) rfl rfl (Nat.le_of_ble_eq_true rfl) (Nat.le_of_ble_eq_true rfl) ?_
    refine hw_mono H ?_
    rintro r ψ4 y4 ⟨hyx, hψx, z4, hr, H⟩
    subst hyx
    subst hψx
    subst hr
    refine ⟨hne0, ?_⟩
    show hw sc (d + 1) 108 22 L [(0, z4), (0, 1), (0, l2)] φ y4 Q
    refine hw_bin (w := hb_shl 1 z4) (a0 := 0) (b := 6) (e := 0) (by decide +kernel) rfl ?_
    refine hw_bin (w := hb_or l2 (hb_shl 1 z4)) (a0 := 0) (b := 4) (e := 0) (by decide +kernel) rfl ?_
    refine hw_st (L' := (jm_st1 L 2 (0, hb_or l2 (hb_shl 1 z4)))) (b := 2) (e := 0) (by decide +kernel) rfl ?_
    refine hw_inc (L' := (jm_st1 (jm_st1 L 2 (0, hb_or l2 (hb_shl 1 z4))) 3 (0, l3 + 1))) (c := 1) (b := 3) (e := 0) (by decide +kernel) (get_st1 g3 (by decide) (fun q => absurd q.1 (by decide))) rfl ?_
    refine hw_goto (a0 := 0) (b := 0) (e := 4) (by decide +kernel) ?_
    exact H
theorem sf_108_17_l4 {sc : List Int} {d x : Nat} {Q : Option jm_V → hf_F → Nat → Prop} : ∀ (n : Nat) (φ : hf_F) (L : jm_L) (l1 l2 l3 : Int), jm_get L 0 = some (2, 17) → jm_get L 1 = some (0, l1) → jm_get L 2 = some (0, l2) → jm_get L 3 = some (0, l3) → Inv φ → 6 - l3 < (n : Int) → 0 ≤ l1 → l1 ≤ 5 → (-2147483648 : Int) ≤ l2 → l2 ≤ 2147483647 → 0 ≤ l3 → l3 ≤ 6 → (∀ (r : Int), True → F_State_knownBy_17_l4 n φ l1 l2 l3 = r → Q (some (0, r)) φ x) → hw sc (d + 1) 108 4 L [] φ x Q := by
  intro n
  induction n with
  | zero =>
    intro φ L l1 l2 l3 g0 g1 g2 g3 hI hM b1a b1b b2a b2b b3a b3b hQ
    exfalso
    omega
  | succ n ih =>
    intro φ L l1 l2 l3 g0 g1 g2 g3 hI hM b1a b1b b2a b2b b3a b3b hQ
    refine sf_108_17_v4 g0 g1 g2 g3 ?_
    have e0 := F_State_knownBy_17_l4_s (φ := φ) (l1 := l1) (l2 := l2) (l3 := l3) n
    refine ⟨by omega, by omega, ?_⟩
    have f1 := iv_ar (a := 21) (s := 0) (t := 6) (lo := 0) (u := 6) (z := l1) hI (by decide +kernel) (by omega) (by omega)
    refine ⟨by unfold hi; omega, by unfold hi; omega, fun q2 => ?_, fun q2 => ?_⟩
    · skip
      have e2a := e0.trans (if_pos q2)
      exact hQ l2 trivial e2a
    · skip
      have e2b := e0.trans (if_neg q2)
      refine sf_71_17 (φ := φ) hI (by omega) (by omega) (by omega) (by omega) (fun z4 hp4 hE4 => ⟨rfl, rfl, z4, rfl, ?_⟩)
      have e4 := e2b.trans (bnp_e hE4)
      have f2 := hr_shl1 z4
      have f3 := hr_shl 1 z4
      have f4 := hr_or l2 (hb_shl 1 z4)
      exact ih φ (jm_st1 (jm_st1 L 2 (0, hb_or l2 (hb_shl 1 z4))) 3 (0, l3 + 1)) l1 (hb_or l2 (hb_shl 1 z4)) (l3 + 1) (get_st1 (get_st1 g0 (by decide) (fun q => absurd q.1 (by decide))) (by decide) (fun q => absurd q.1 (by decide))) (get_st1 (get_st1 g1 (by decide) (fun q => tg0 q.2)) (by decide) (fun q => absurd q.1 (by decide))) (get_st1 get_st1e (by decide) (fun q => tg0 q.2)) get_st1e hI (by omega) (by omega) (by omega) (by omega) (by omega) (by omega) (by omega) (fun rr hpχ hEχ => hQ rr hpχ (e4.trans hEχ))
theorem sf_108_17_v {sc : List Int} {d : Nat} {φ : hf_F} {x : Nat} {Q : Option jm_V → hf_F → Nat → Prop} {v1 : Int}
    (H : hw sc (d + 1) 108 4 (jm_st1 (jm_st1 [(0, (2, 17)), (1, (0, v1))] 2 (0, 0)) 3 (0, 0)) [] φ x Q) :
    hw sc (d + 1) 108 0 [(0, (2, 17)), (1, (0, v1))] [] φ x Q := by
  refine hw_k (c := 0) (b := 0) (e := 1) (by decide +kernel) ?_
  refine hw_st (L' := (jm_st1 [(0, (2, 17)), (1, (0, v1))] 2 (0, 0))) (b := 2) (e := 0) (by decide +kernel) rfl ?_
  refine hw_k (c := 0) (b := 0) (e := 1) (by decide +kernel) ?_
  refine hw_st (L' := (jm_st1 (jm_st1 [(0, (2, 17)), (1, (0, v1))] 2 (0, 0)) 3 (0, 0))) (b := 3) (e := 0) (by decide +kernel) rfl ?_
  exact H
theorem sf_108_17 {sc : List Int} {d : Nat} {φ : hf_F} {x : Nat} {Q : Option jm_V → hf_F → Nat → Prop} {v1 : Int} (hI : Inv φ) (h1a : 0 ≤ v1) (h1b : v1 ≤ 5) (hQ : ∀ (r : Int), True → F_State_knownBy_17 φ v1 = r → Q (some (0, r)) φ x) : hw sc (d + 1) 108 0 [(0, (2, 17)), (1, (0, v1))] [] φ x Q := by
  apply sf_108_17_v
  have e0 : F_State_knownBy_17 φ v1 = _ := rfl
  exact sf_108_17_l4 ((6 - 0 : Int).toNat + 1) φ (jm_st1 (jm_st1 [(0, (2, 17)), (1, (0, v1))] 2 (0, 0)) 3 (0, 0)) v1 0 0 (get_st1 (get_st1 rfl (by decide) (fun q => absurd q.1 (by decide))) (by decide) (fun q => absurd q.1 (by decide))) (get_st1 (get_st1 rfl (by decide) (fun q => tg0 q.2)) (by decide) (fun q => absurd q.1 (by decide))) (get_st1 get_st1e (by decide) (fun q => tg0 q.2)) get_st1e hI (by omega) (by omega) (by omega) (by omega) (by omega) (by omega) (by omega) (fun rr hpχ hEχ => hQ rr hpχ (e0.trans hEχ))
theorem sf_55_17_v {sc : List Int} {d : Nat} {φ : hf_F} {x : Nat} {Q : Option jm_V → hf_F → Nat → Prop} {v1 v2 : Int}
    (H : 0 ≤ v1 ∧ v1 < 6 ∧ (0 ≤ ((v1 * 6) + (φ 21 ((v1).toNat))) ∧ ((v1 * 6) + (φ 21 ((v1).toNat))) < 36 ∧ (0 ≤ v1 ∧ v1 < 6 ∧ (0 ≤ v1 ∧ v1 < 6 ∧ (Q none (hf_up (hf_up φ 22 (((v1 * 6) + (φ 21 ((v1).toNat))).toNat) v2) 21 ((v1).toNat) ((φ 21 ((v1).toNat)) + 1)) x))))) :
    hw sc d 55 0 [(0, (2, 17)), (1, (0, v1)), (2, (0, v2))] [] φ x Q := by
  refine hw_ald (b := 0) (e := 0) (by decide +kernel) rfl (by decide) ?_
  refine hr_gr (w := 22) (b := 4) (e := 10) 17 rfl (by decide +kernel) ?_
  refine hw_ld (b := 1) (e := 0) (by decide +kernel) rfl ?_
  refine hw_k (c := 6) (b := 1) (e := 2) (by decide +kernel) ?_
  refine hw_bin (w := v1 * 6) (a0 := 0) (b := 2) (e := 0) (by decide +kernel) rfl ?_
  refine hw_ald (b := 0) (e := 0) (by decide +kernel) rfl (by decide) ?_
  refine hr_gr (w := 21) (b := 4) (e := 9) 17 rfl (by decide +kernel) ?_
  refine hw_ld (b := 1) (e := 0) (by decide +kernel) rfl ?_
  obtain ⟨hl1, hu1, H⟩ := H
  refine hr_al (b := 0) (a0 := 0) (e := 0) (n := 6) (w := φ 21 ((v1).toNat)) 21 rfl (by decide +kernel) (by decide) hl1 hu1 rfl ?_
  refine hw_bin (w := (v1 * 6) + (φ 21 ((v1).toNat))) (a0 := 0) (b := 0) (e := 0) (by decide +kernel) rfl ?_
  refine hw_ld (b := 2) (e := 0) (by decide +kernel) rfl ?_
  obtain ⟨hl2, hu2, H⟩ := H
  refine hr_as (a0 := 0) (e := 4) (n := 36) 22 rfl (by decide +kernel) hl2 hu2 ?_
  refine hw_ald (b := 0) (e := 0) (by decide +kernel) rfl (by decide) ?_
  refine hr_gr (w := 21) (b := 4) (e := 9) 17 rfl (by decide +kernel) ?_
  refine hw_ld (b := 1) (e := 0) (by decide +kernel) rfl ?_
  refine hw_dup2 (a0 := 0) (e := 0) (by decide +kernel) (by decide) (by decide) ?_
  obtain ⟨hl3, hu3, H⟩ := H
  refine hr_al (b := 0) (a0 := 0) (e := 0) (n := 6) (w := φ 21 ((v1).toNat)) 21 rfl (by decide +kernel) (by decide) hl3 hu3 (hf_up_ne (fun q => absurd q.1 (by decide))) ?_
  refine hw_k (c := 1) (b := 0) (e := 1) (by decide +kernel) ?_
  refine hw_bin (w := (φ 21 ((v1).toNat)) + 1) (a0 := 0) (b := 0) (e := 0) (by decide +kernel) rfl ?_
  obtain ⟨hl4, hu4, H⟩ := H
  refine hr_as (a0 := 0) (e := 4) (n := 6) 21 rfl (by decide +kernel) hl4 hu4 ?_
  exact hw_vret (a0 := 0) (e := 0) (by decide +kernel) H
theorem sf_55_17 {sc : List Int} {d : Nat} {φ : hf_F} {x : Nat} {Q : Option jm_V → hf_F → Nat → Prop} {v1 v2 : Int} (hI : Inv φ) (h1a : 0 ≤ v1) (h1b : v1 ≤ 5) (h2a : 0 ≤ v2) (h2b : v2 ≤ 7) (hx0 : 0 ≤ φ 21 ((v1).toNat) ∧ φ 21 ((v1).toNat) ≤ 5) (hQ : ∀ ψ : hf_F, Inv ψ → Fr [21, 22] φ ψ → F_State_addWord_17 φ v1 v2 = ψ → Q none ψ x) : hw sc d 55 0 [(0, (2, 17)), (1, (0, v1)), (2, (0, v2))] [] φ x Q := by
  apply sf_55_17_v
  have e0 : F_State_addWord_17 φ v1 v2 = _ := rfl
  refine ⟨by omega, by omega, ?_⟩
  have f1 := iv_ar (a := 21) (s := 0) (t := 6) (lo := 0) (u := 6) (z := v1) hI (by decide +kernel) (by omega) (by omega)
  refine ⟨by omega, by omega, ?_⟩
  have i2 : Inv (hf_up φ 22 (((v1 * 6) + (φ 21 ((v1).toNat))).toNat) v2) := iv_upI (s := 0) (t := 36) (lo := 0) (u := 7) (z := (v1 * 6) + (φ 21 ((v1).toNat))) hI (by decide +kernel) (by omega) (by omega) (by omega) (by omega)
  have r2 : Fr [21, 22] φ (hf_up φ 22 (((v1 * 6) + (φ 21 ((v1).toNat))).toNat) v2) := fr_upa (fr_rf) (by decide)
  refine ⟨by omega, by omega, ?_⟩
  refine ⟨by omega, by omega, ?_⟩
  have i3 : Inv (hf_up (hf_up φ 22 (((v1 * 6) + (φ 21 ((v1).toNat))).toNat) v2) 21 ((v1).toNat) ((φ 21 ((v1).toNat)) + 1)) := iv_upI (s := 0) (t := 6) (lo := 0) (u := 6) (z := v1) i2 (by decide +kernel) (by omega) (by omega) (by omega) (by omega)
  have r3 : Fr [21, 22] φ (hf_up (hf_up φ 22 (((v1 * 6) + (φ 21 ((v1).toNat))).toNat) v2) 21 ((v1).toNat) ((φ 21 ((v1).toNat)) + 1)) := fr_upa r2 (by decide)
  exact hQ (hf_up (hf_up φ 22 (((v1 * 6) + (φ 21 ((v1).toNat))).toNat) v2) 21 ((v1).toNat) ((φ 21 ((v1).toNat)) + 1)) i3 r3 e0
theorem sf_12_23_k1_0_v5 {sc : List Int} {d : Nat} {φ : hf_F} {x : Nat} {Q : Option jm_V → hf_F → Nat → Prop} {L : jm_L} {l2 : Int} (g0 : jm_get L 0 = some (2, 23)) (g1 : jm_get L 1 = some (0, 0)) (g2 : jm_get L 2 = some (0, l2)) (g3 : jm_get L 3 = some (0, 6))
    (H : hi l2 ∧ hi 6 ∧ (6 ≤ l2 → Q none φ x) ∧ (¬ 6 ≤ l2 → 0 ≤ l2 ∧ l2 < 6 ∧ (hw sc d 12 5 (jm_st1 L 2 (0, l2 + 1)) [] (hf_up φ 23 ((l2).toNat) 0) x Q))) :
    hw sc d 12 5 L [] φ x Q := by
  refine hw_ld (b := 2) (e := 0) (by decide +kernel) g2 ?_
  refine hw_ld (b := 3) (e := 0) (by decide +kernel) g3 ?_
  obtain ⟨hz1, hy1, ht1, hf1⟩ := H
  refine hw_if2 (a0 := 0) (b := 3) (e := 20) (by decide +kernel) hz1 hy1 (fun q => ?_) (fun q => ?_)
  · have H := ht1 q
    exact hw_vret (a0 := 0) (e := 0) (by decide +kernel) H
  · have H := hf1 q
    refine hw_ald (b := 0) (e := 0) (by decide +kernel) g0 (by decide) ?_
    refine hw_ld (b := 2) (e := 0) (by decide +kernel) g2 ?_
    refine hw_ld (b := 1) (e := 0) (by decide +kernel) g1 ?_
    obtain ⟨hl3, hu3, H⟩ := H
    refine hr_as (a0 := 0) (e := 4) (n := 6) 23 rfl (by decide +kernel) hl3 hu3 ?_
    refine hw_inc (L' := (jm_st1 L 2 (0, l2 + 1))) (c := 1) (b := 2) (e := 0) (by decide +kernel) g2 rfl ?_
    refine hw_goto (a0 := 0) (b := 0) (e := 5) (by decide +kernel) ?_
    exact H
theorem sf_12_23_k1_0_l5 {sc : List Int} {d x : Nat} {Q : Option jm_V → hf_F → Nat → Prop} : ∀ (n : Nat) (φ : hf_F) (L : jm_L) (l2 : Int), jm_get L 0 = some (2, 23) → jm_get L 1 = some (0, 0) → jm_get L 2 = some (0, l2) → jm_get L 3 = some (0, 6) → Inv φ → 6 - l2 < (n : Int) → 0 ≤ l2 → l2 ≤ 6 → (∀ ψ : hf_F, Inv ψ → Fr [23] φ ψ → F_java_util_Arrays_fill_23_k1_0_l5 n φ l2 = ψ → Q none ψ x) → hw sc d 12 5 L [] φ x Q := by
  intro n
  induction n with
  | zero =>
    intro φ L l2 g0 g1 g2 g3 hI hM b2a b2b hQ
    exfalso
    omega
  | succ n ih =>
    intro φ L l2 g0 g1 g2 g3 hI hM b2a b2b hQ
    refine sf_12_23_k1_0_v5 g0 g1 g2 g3 ?_
    have e0 := F_java_util_Arrays_fill_23_k1_0_l5_s (φ := φ) (l2 := l2) n
    refine ⟨by unfold hi; omega, by unfold hi; omega, fun q1 => ?_, fun q1 => ?_⟩
    · skip
      have e1a := e0.trans (if_pos q1)
      exact hQ φ hI (fr_rf) e1a
    · skip
      have e1b := e0.trans (if_neg q1)
      refine ⟨by omega, by omega, ?_⟩
      have i1 : Inv (hf_up φ 23 ((l2).toNat) 0) := iv_upI (s := 0) (t := 6) (lo := 0) (u := 5) (z := l2) hI (by decide +kernel) (by omega) (by omega) (by omega) (by omega)
      have r1 : Fr [23] φ (hf_up φ 23 ((l2).toNat) 0) := fr_upa (fr_rf) (by decide)
      exact ih (hf_up φ 23 ((l2).toNat) 0) (jm_st1 L 2 (0, l2 + 1)) (l2 + 1) (get_st1 g0 (by decide) (fun q => absurd q.1 (by decide))) (get_st1 g1 (by decide) (fun q => tg0 q.2)) get_st1e (get_st1 g3 (by decide) (fun q => absurd q.1 (by decide))) i1 (by omega) (by omega) (by omega) (fun χ hIχ hFχ hEχ => hQ χ hIχ (fr_tr r1 hFχ (by decide)) (e1b.trans hEχ))
theorem sf_12_23_k1_0_v {sc : List Int} {d : Nat} {φ : hf_F} {x : Nat} {Q : Option jm_V → hf_F → Nat → Prop} 
    (H : hw sc d 12 5 (jm_st1 (jm_st1 [(0, (2, 23)), (1, (0, 0))] 2 (0, 0)) 3 (0, 6)) [] φ x Q) :
    hw sc d 12 0 [(0, (2, 23)), (1, (0, 0))] [] φ x Q := by
  refine hw_k (c := 0) (b := 0) (e := 1) (by decide +kernel) ?_
  refine hw_st (L' := (jm_st1 [(0, (2, 23)), (1, (0, 0))] 2 (0, 0))) (b := 2) (e := 0) (by decide +kernel) rfl ?_
  refine hw_ald (b := 0) (e := 0) (by decide +kernel) (get_st1 rfl (by decide) (fun q => absurd q.1 (by decide))) (by decide) ?_
  refine hr_len (n := 6) (a0 := 0) (b := 0) (e := 0) 23 rfl (by decide +kernel) ?_
  refine hw_st (L' := (jm_st1 (jm_st1 [(0, (2, 23)), (1, (0, 0))] 2 (0, 0)) 3 (0, 6))) (b := 3) (e := 0) (by decide +kernel) rfl ?_
  exact H
theorem sf_12_23_k1_0 {sc : List Int} {d : Nat} {φ : hf_F} {x : Nat} {Q : Option jm_V → hf_F → Nat → Prop}  (hI : Inv φ)  (hQ : ∀ ψ : hf_F, Inv ψ → Fr [23] φ ψ → F_java_util_Arrays_fill_23_k1_0 φ = ψ → Q none ψ x) : hw sc d 12 0 [(0, (2, 23)), (1, (0, 0))] [] φ x Q := by
  apply sf_12_23_k1_0_v
  have e0 : F_java_util_Arrays_fill_23_k1_0 φ = _ := rfl
  exact sf_12_23_k1_0_l5 ((6 - 0 : Int).toNat + 1) φ (jm_st1 (jm_st1 [(0, (2, 23)), (1, (0, 0))] 2 (0, 0)) 3 (0, 6)) 0 (get_st1 (get_st1 rfl (by decide) (fun q => absurd q.1 (by decide))) (by decide) (fun q => absurd q.1 (by decide))) (get_st1 (get_st1 rfl (by decide) (fun q => tg0 q.2)) (by decide) (fun q => absurd q.1 (by decide))) (get_st1 get_st1e (by decide) (fun q => tg0 q.2)) get_st1e hI (by omega) (by omega) (by omega) (fun χ hIχ hFχ hEχ => hQ χ hIχ (fr_tr (fr_rf) hFχ (by decide)) (e0.trans hEχ))
theorem sf_88_17_v {sc : List Int} {d : Nat} {φ : hf_F} {x : Nat} {Q : Option jm_V → hf_F → Nat → Prop} 
    (H : hw sc d 12 0 [(0, (2, 23)), (1, (0, 0))] [] (hf_up (hf_up (hf_up φ 17 3 0) 17 1 (-1 : Int)) 17 2 (-1 : Int)) x (fun r ψ1 y1 => y1 = x ∧ (r = none ∧ (Q none (hf_up ψ1 17 5 ((ψ1 17 5) + 1)) x)))) :
    hw sc (d + 1) 88 0 [(0, (2, 17))] [] φ x Q := by
  refine hw_ald (b := 0) (e := 0) (by decide +kernel) rfl (by decide) ?_
  refine hw_k (c := 0) (b := 0) (e := 1) (by decide +kernel) ?_
  refine hr_pi (b := 4) (e := 3) 17 rfl (by decide +kernel) ?_
  refine hw_ald (b := 0) (e := 0) (by decide +kernel) rfl (by decide) ?_
  refine hw_k (c := (-1 : Int)) (b := 0) (e := 1) (by decide +kernel) ?_
  refine hr_pi (b := 4) (e := 1) 17 rfl (by decide +kernel) ?_
  refine hw_ald (b := 0) (e := 0) (by decide +kernel) rfl (by decide) ?_
  refine hw_k (c := (-1 : Int)) (b := 0) (e := 1) (by decide +kernel) ?_
  refine hr_pi (b := 4) (e := 2) 17 rfl (by decide +kernel) ?_
  refine hw_ald (b := 0) (e := 0) (by decide +kernel) rfl (by decide) ?_
  refine hr_gr (w := 23) (b := 4) (e := 11) 17 rfl (by decide +kernel) ?_
  refine hw_k (c := 0) (b := 0) (e := 1) (by decide +kernel) ?_
  refine hr_calls (b := 12) (e := 2) (nl := 4) (As := [(2, 23), (0, 0)]) (R := []) (by decide +kernel) rfl rfl (Nat.le_of_ble_eq_true rfl) (Nat.le_of_ble_eq_true rfl) ?_
  refine hw_mono H ?_
  rintro r ψ1 y1 ⟨hyx, hr, H⟩
  subst hyx
  subst hr
  refine ⟨hnen, ?_⟩
  show hw sc (d + 1) 88 23 [(0, (2, 17))] [] ψ1 y1 Q
  refine hw_ald (b := 0) (e := 0) (by decide +kernel) rfl (by decide) ?_
  refine hw_dup (a0 := 0) (e := 0) (by decide +kernel) (by decide) ?_
  refine hr_gi (w := ψ1 17 5) (b := 4) (e := 5) 17 rfl (by decide +kernel) rfl ?_
  refine hw_k (c := 1) (b := 0) (e := 1) (by decide +kernel) ?_
  refine hw_bin (w := (ψ1 17 5) + 1) (a0 := 0) (b := 0) (e := 0) (by decide +kernel) rfl ?_
  refine hr_pi (b := 4) (e := 5) 17 rfl (by decide +kernel) ?_
  exact hw_vret (a0 := 0) (e := 0) (by decide +kernel) H
theorem sf_88_17 {sc : List Int} {d : Nat} {φ : hf_F} {x : Nat} {Q : Option jm_V → hf_F → Nat → Prop}  (hI : Inv φ)  (hQ : ∀ ψ : hf_F, Inv ψ → Fr [23, 18001, 18002, 18003, 18005] φ ψ → F_State_blow_17 φ = ψ → Q none ψ x) : hw sc (d + 1) 88 0 [(0, (2, 17))] [] φ x Q := by
  apply sf_88_17_v
  have e0 : F_State_blow_17 φ = _ := rfl
  have i1 : Inv (hf_up φ 17 3 0) := iv_up (lo := (-2147483648 : Int)) (u := 2147483647) hI (by decide +kernel) (by omega) (by omega)
  have r1 : Fr [23, 18001, 18002, 18003, 18005] φ (hf_up φ 17 3 0) := fr_up (fr_rf) (by decide)
  have i2 : Inv (hf_up (hf_up φ 17 3 0) 17 1 (-1 : Int)) := iv_up (lo := (-1 : Int)) (u := 7) i1 (by decide +kernel) (by omega) (by omega)
  have r2 : Fr [23, 18001, 18002, 18003, 18005] φ (hf_up (hf_up φ 17 3 0) 17 1 (-1 : Int)) := fr_up r1 (by decide)
  have i3 : Inv (hf_up (hf_up (hf_up φ 17 3 0) 17 1 (-1 : Int)) 17 2 (-1 : Int)) := iv_up (lo := (-1 : Int)) (u := 5) i2 (by decide +kernel) (by omega) (by omega)
  have r3 : Fr [23, 18001, 18002, 18003, 18005] φ (hf_up (hf_up (hf_up φ 17 3 0) 17 1 (-1 : Int)) 17 2 (-1 : Int)) := fr_up r2 (by decide)
  refine sf_12_23_k1_0 (φ := (hf_up (hf_up (hf_up φ 17 3 0) 17 1 (-1 : Int)) 17 2 (-1 : Int))) i3  (fun ψ1 hI1 hF1 hE1 => ⟨rfl, rfl, ?_⟩)
  have hG1 : Fr [23, 18001, 18002, 18003, 18005] φ ψ1 := fr_tr r3 hF1 (by decide)
  have e1 := e0.trans (bnv_e hE1)
  have f4 : ψ1 17 5 = φ 17 5 := (fr_fd hF1 17 5 (by decide)).trans ((hf_up_ne (fun q => absurd q.2 (by decide))).trans ((hf_up_ne (fun q => absurd q.2 (by decide))).trans (hf_up_ne (fun q => absurd q.2 (by decide)))))
  have i5 : Inv (hf_up ψ1 17 5 ((ψ1 17 5) + 1)) := iv_upn hI1 (by decide) (by decide) (by decide +kernel)
  have r5 : Fr [23, 18001, 18002, 18003, 18005] φ (hf_up ψ1 17 5 ((ψ1 17 5) + 1)) := fr_up hG1 (by decide)
  exact hQ (hf_up ψ1 17 5 ((ψ1 17 5) + 1)) i5 r5 e1
theorem sf_93_17_5_v {sc : List Int} {d : Nat} {φ : hf_F} {x : Nat} {Q : Option jm_V → hf_F → Nat → Prop} {v2 : Int}
    (H : 0 ≤ v2 ∧ v2 < 6 ∧ (hw sc d 71 0 [(0, (2, 17)), (1, (0, v2)), (2, (0, φ 23 ((v2).toNat)))] [] φ x (fun r ψ2 y2 => y2 = x ∧ φ = ψ2 ∧ (∃ z2 : Int, r = some (0, z2) ∧ (0 ≤ v2 ∧ v2 < 6 ∧ (0 ≤ v2 ∧ v2 < 6 ∧ (hi ((φ 23 ((v2).toNat)) + 1) ∧ hi (φ 21 ((v2).toNat)) ∧ ((φ 21 ((v2).toNat)) ≤ ((φ 23 ((v2).toNat)) + 1) → 0 ≤ v2 ∧ v2 < 6 ∧ (0 ≤ v2 ∧ v2 < 6 ∧ (0 ≤ v2 ∧ v2 < 6 ∧ (hi (φ 17 1) ∧ hi (-1 : Int) ∧ (¬ (φ 17 1) = (-1 : Int) → 0 ≤ (((φ 17 1) * 8) + z2) ∧ (((φ 17 1) * 8) + z2) < 64 ∧ (hi (φ 16 ((((φ 17 1) * 8) + z2).toNat)) ∧ hi (-1 : Int) ∧ ((φ 16 ((((φ 17 1) * 8) + z2).toNat)) = (-1 : Int) → Q none (hf_up (hf_up (hf_up (hf_up (hf_up φ 23 ((v2).toNat) 0) 24 ((v2).toNat) ((φ 24 ((v2).toNat)) + 1)) 17 4 ((φ 17 4) + 1)) 17 1 z2) 17 2 v2) x) ∧ (¬ (φ 16 ((((φ 17 1) * 8) + z2).toNat)) = (-1 : Int) → 0 ≤ (φ 16 ((((φ 17 1) * 8) + z2).toNat)) ∧ (φ 16 ((((φ 17 1) * 8) + z2).toNat)) < 8 ∧ (0 ≤ (φ 16 ((((φ 17 1) * 8) + z2).toNat)) ∧ (φ 16 ((((φ 17 1) * 8) + z2).toNat)) < 8 ∧ (0 ≤ (φ 16 ((((φ 17 1) * 8) + z2).toNat)) ∧ (φ 16 ((((φ 17 1) * 8) + z2).toNat)) < 8 ∧ (Q none (hf_up (hf_up (hf_up (hf_up (hf_up (hf_up (hf_up φ 23 ((v2).toNat) 0) 24 ((v2).toNat) ((φ 24 ((v2).toNat)) + 1)) 17 4 ((φ 17 4) + 1)) 17 3 (hb_and (hb_or (φ 17 3) (hb_shl 1 (φ 16 ((((φ 17 1) * 8) + z2).toNat)))) (hb_xor (φ 15 ((φ 16 ((((φ 17 1) * 8) + z2).toNat)).toNat)) (-1 : Int)))) 25 ((φ 16 ((((φ 17 1) * 8) + z2).toNat)).toNat) ((φ 25 ((φ 16 ((((φ 17 1) * 8) + z2).toNat)).toNat)) + 1)) 17 1 z2) 17 2 v2) x)))))) ∧ (¬ (¬ (φ 17 1) = (-1 : Int)) → Q none (hf_up (hf_up (hf_up (hf_up (hf_up φ 23 ((v2).toNat) 0) 24 ((v2).toNat) ((φ 24 ((v2).toNat)) + 1)) 17 4 ((φ 17 4) + 1)) 17 1 z2) 17 2 v2) x))))) ∧ (¬ (φ 21 ((v2).toNat)) ≤ ((φ 23 ((v2).toNat)) + 1) → 0 ≤ v2 ∧ v2 < 6 ∧ (0 ≤ v2 ∧ v2 < 6 ∧ (0 ≤ v2 ∧ v2 < 6 ∧ (hi (φ 17 1) ∧ hi (-1 : Int) ∧ (¬ (φ 17 1) = (-1 : Int) → 0 ≤ (((φ 17 1) * 8) + z2) ∧ (((φ 17 1) * 8) + z2) < 64 ∧ (hi (φ 16 ((((φ 17 1) * 8) + z2).toNat)) ∧ hi (-1 : Int) ∧ ((φ 16 ((((φ 17 1) * 8) + z2).toNat)) = (-1 : Int) → Q none (hf_up (hf_up (hf_up (hf_up (hf_up φ 23 ((v2).toNat) ((φ 23 ((v2).toNat)) + 1)) 24 ((v2).toNat) ((φ 24 ((v2).toNat)) + 1)) 17 4 ((φ 17 4) + 1)) 17 1 z2) 17 2 v2) x) ∧ (¬ (φ 16 ((((φ 17 1) * 8) + z2).toNat)) = (-1 : Int) → 0 ≤ (φ 16 ((((φ 17 1) * 8) + z2).toNat)) ∧ (φ 16 ((((φ 17 1) * 8) + z2).toNat)) < 8 ∧ (0 ≤ (φ 16 ((((φ 17 1) * 8) + z2).toNat)) ∧ (φ 16 ((((φ 17 1) * 8) + z2).toNat)) < 8 ∧ (0 ≤ (φ 16 ((((φ 17 1) * 8) + z2).toNat)) ∧ (φ 16 ((((φ 17 1) * 8) + z2).toNat)) < 8 ∧ (Q none (hf_up (hf_up (hf_up (hf_up (hf_up (hf_up (hf_up φ 23 ((v2).toNat) ((φ 23 ((v2).toNat)) + 1)) 24 ((v2).toNat) ((φ 24 ((v2).toNat)) + 1)) 17 4 ((φ 17 4) + 1)) 17 3 (hb_and (hb_or (φ 17 3) (hb_shl 1 (φ 16 ((((φ 17 1) * 8) + z2).toNat)))) (hb_xor (φ 15 ((φ 16 ((((φ 17 1) * 8) + z2).toNat)).toNat)) (-1 : Int)))) 25 ((φ 16 ((((φ 17 1) * 8) + z2).toNat)).toNat) ((φ 25 ((φ 16 ((((φ 17 1) * 8) + z2).toNat)).toNat)) + 1)) 17 1 z2) 17 2 v2) x)))))) ∧ (¬ (¬ (φ 17 1) = (-1 : Int)) → Q none (hf_up (hf_up (hf_up (hf_up (hf_up φ 23 ((v2).toNat) ((φ 23 ((v2).toNat)) + 1)) 24 ((v2).toNat) ((φ 24 ((v2).toNat)) + 1)) 17 4 ((φ 17 4) + 1)) 17 1 z2) 17 2 v2) x)))))))))))) :
    hw sc (d + 1) 93 0 [(0, (2, 17)), (1, (2, 5)), (2, (0, v2))] [] φ x Q := by
  refine hw_ald (b := 0) (e := 0) (by decide +kernel) rfl (by decide) ?_
  refine hw_ld (b := 2) (e := 0) (by decide +kernel) rfl ?_
  refine hw_ald (b := 0) (e := 0) (by decide +kernel) rfl (by decide) ?_
  refine hr_gr (w := 23) (b := 4) (e := 11) 17 rfl (by decide +kernel) ?_
  refine hw_ld (b := 2) (e := 0) (by decide +kernel) rfl ?_
  obtain ⟨hl1, hu1, H⟩ := H
  refine hr_al (b := 0) (a0 := 0) (e := 0) (n := 6) (w := φ 23 ((v2).toNat)) 23 rfl (by decide +kernel) (by decide) hl1 hu1 rfl ?_
  refine hr_call (a0 := 14) (b := 71) (e := 3) (nl := 3) (As := [(0, v2), (0, φ 23 ((v2).toNat))]) (R := []) 17 rfl (by decide +kernel) rfl rfl (Nat.le_of_ble_eq_true rfl) (Nat.le_of_ble_eq_true rfl) ?_
  refine hw_mono H ?_
  rintro r ψ2 y2 ⟨hyx, hψx, z2, hr, H⟩
  subst hyx
  subst hψx
  subst hr
  refine ⟨hne0, ?_⟩
  show hw sc (d + 1) 93 11 [(0, (2, 17)), (1, (2, 5)), (2, (0, v2))] [(0, z2)] φ y2 Q
  refine hw_st (L' := (jm_st1 [(0, (2, 17)), (1, (2, 5)), (2, (0, v2))] 3 (0, z2))) (b := 3) (e := 0) (by decide +kernel) rfl ?_
  refine hw_ald (b := 0) (e := 0) (by decide +kernel) (get_st1 rfl (by decide) (fun q => absurd q.1 (by decide))) (by decide) ?_
  refine hr_gr (w := 23) (b := 4) (e := 11) 17 rfl (by decide +kernel) ?_
  refine hw_ld (b := 2) (e := 0) (by decide +kernel) (get_st1 rfl (by decide) (fun q => tg0 q.2)) ?_
  obtain ⟨hl3, hu3, H⟩ := H
  refine hr_al (b := 0) (a0 := 0) (e := 0) (n := 6) (w := φ 23 ((v2).toNat)) 23 rfl (by decide +kernel) (by decide) hl3 hu3 rfl ?_
  refine hw_k (c := 1) (b := 0) (e := 1) (by decide +kernel) ?_
  refine hw_bin (w := (φ 23 ((v2).toNat)) + 1) (a0 := 0) (b := 0) (e := 0) (by decide +kernel) rfl ?_
  refine hw_st (L' := (jm_st1 (jm_st1 [(0, (2, 17)), (1, (2, 5)), (2, (0, v2))] 3 (0, z2)) 4 (0, (φ 23 ((v2).toNat)) + 1))) (b := 4) (e := 1) (by decide +kernel) rfl ?_
  refine hw_ald (b := 0) (e := 0) (by decide +kernel) (get_st1 (get_st1 rfl (by decide) (fun q => absurd q.1 (by decide))) (by decide) (fun q => absurd q.1 (by decide))) (by decide) ?_
  refine hr_gr (w := 23) (b := 4) (e := 11) 17 rfl (by decide +kernel) ?_
  refine hw_ld (b := 2) (e := 0) (by decide +kernel) (get_st1 (get_st1 rfl (by decide) (fun q => tg0 q.2)) (by decide) (fun q => absurd q.1 (by decide))) ?_
  refine hw_ld (b := 4) (e := 1) (by decide +kernel) get_st1e ?_
  refine hw_ald (b := 0) (e := 0) (by decide +kernel) (get_st1 (get_st1 rfl (by decide) (fun q => absurd q.1 (by decide))) (by decide) (fun q => absurd q.1 (by decide))) (by decide) ?_
  refine hr_gr (w := 21) (b := 4) (e := 9) 17 rfl (by decide +kernel) ?_
  refine hw_ld (b := 2) (e := 0) (by decide +kernel) (get_st1 (get_st1 rfl (by decide) (fun q => tg0 q.2)) (by decide) (fun q => absurd q.1 (by decide))) ?_
  obtain ⟨hl4, hu4, H⟩ := H
  refine hr_al (b := 0) (a0 := 0) (e := 0) (n := 6) (w := φ 21 ((v2).toNat)) 21 rfl (by decide +kernel) (by decide) hl4 hu4 rfl ?_
  obtain ⟨hz5, hy5, ht5, hf5⟩ := H
  refine hw_if2 (a0 := 0) (b := 3) (e := 43) (by decide +kernel) hz5 hy5 (fun q => ?_) (fun q => ?_)
  · have H := ht5 q
    refine hw_k (c := 0) (b := 0) (e := 1) (by decide +kernel) ?_
    obtain ⟨hl6, hu6, H⟩ := H
    refine hr_as (a0 := 0) (e := 4) (n := 6) 23 rfl (by decide +kernel) hl6 hu6 ?_
    refine hw_ald (b := 0) (e := 0) (by decide +kernel) (get_st1 (get_st1 rfl (by decide) (fun q => absurd q.1 (by decide))) (by decide) (fun q => absurd q.1 (by decide))) (by decide) ?_
    refine hr_gr (w := 24) (b := 4) (e := 12) 17 rfl (by decide +kernel) ?_
    refine hw_ld (b := 2) (e := 0) (by decide +kernel) (get_st1 (get_st1 rfl (by decide) (fun q => tg0 q.2)) (by decide) (fun q => absurd q.1 (by decide))) ?_
    refine hw_dup2 (a0 := 0) (e := 0) (by decide +kernel) (by decide) (by decide) ?_
    obtain ⟨hl7, hu7, H⟩ := H
    refine hr_al (b := 0) (a0 := 0) (e := 0) (n := 6) (w := φ 24 ((v2).toNat)) 24 rfl (by decide +kernel) (by decide) hl7 hu7 (hf_up_ne (fun q => absurd q.1 (by decide))) ?_
    refine hw_k (c := 1) (b := 0) (e := 1) (by decide +kernel) ?_
    refine hw_bin (w := (φ 24 ((v2).toNat)) + 1) (a0 := 0) (b := 0) (e := 0) (by decide +kernel) rfl ?_
    obtain ⟨hl8, hu8, H⟩ := H
    refine hr_as (a0 := 0) (e := 4) (n := 6) 24 rfl (by decide +kernel) hl8 hu8 ?_
    refine hw_ald (b := 0) (e := 0) (by decide +kernel) (get_st1 (get_st1 rfl (by decide) (fun q => absurd q.1 (by decide))) (by decide) (fun q => absurd q.1 (by decide))) (by decide) ?_
    refine hw_dup (a0 := 0) (e := 0) (by decide +kernel) (by decide) ?_
    refine hr_gi (w := φ 17 4) (b := 4) (e := 4) 17 rfl (by decide +kernel) ((hf_up_ne (fun q => absurd q.1 (by decide))).trans (hf_up_ne (fun q => absurd q.1 (by decide)))) ?_
    refine hw_k (c := 1) (b := 0) (e := 1) (by decide +kernel) ?_
    refine hw_bin (w := (φ 17 4) + 1) (a0 := 0) (b := 0) (e := 0) (by decide +kernel) rfl ?_
    refine hr_pi (b := 4) (e := 4) 17 rfl (by decide +kernel) ?_
    refine hw_ald (b := 0) (e := 0) (by decide +kernel) (get_st1 (get_st1 rfl (by decide) (fun q => absurd q.1 (by decide))) (by decide) (fun q => absurd q.1 (by decide))) (by decide) ?_
    refine hr_gi (w := φ 17 1) (b := 4) (e := 1) 17 rfl (by decide +kernel) ((hf_up_ne (fun q => absurd q.2 (by decide))).trans ((hf_up_ne (fun q => absurd q.1 (by decide))).trans (hf_up_ne (fun q => absurd q.1 (by decide))))) ?_
    refine hw_k (c := (-1 : Int)) (b := 0) (e := 1) (by decide +kernel) ?_
    obtain ⟨hz9, hy9, ht9, hf9⟩ := H
    refine hw_if2 (a0 := 0) (b := 1) (e := 77) (by decide +kernel) hz9 hy9 (fun q => ?_) (fun q => ?_)
    · have H := ht9 q
      refine hw_ald (b := 1) (e := 0) (by decide +kernel) (get_st1 (get_st1 rfl (by decide) (fun q => absurd q.1 (by decide))) (by decide) (fun q => absurd q.1 (by decide))) (by decide) ?_
      refine hr_gr (w := 16) (b := 3) (e := 10) 5 rfl (by decide +kernel) ?_
      refine hw_ald (b := 0) (e := 0) (by decide +kernel) (get_st1 (get_st1 rfl (by decide) (fun q => absurd q.1 (by decide))) (by decide) (fun q => absurd q.1 (by decide))) (by decide) ?_
      refine hr_gi (w := φ 17 1) (b := 4) (e := 1) 17 rfl (by decide +kernel) ((hf_up_ne (fun q => absurd q.2 (by decide))).trans ((hf_up_ne (fun q => absurd q.1 (by decide))).trans (hf_up_ne (fun q => absurd q.1 (by decide))))) ?_
      refine hw_k (c := 8) (b := 1) (e := 2) (by decide +kernel) ?_
      refine hw_bin (w := (φ 17 1) * 8) (a0 := 0) (b := 2) (e := 0) (by decide +kernel) rfl ?_
      refine hw_ld (b := 3) (e := 0) (by decide +kernel) (get_st1 get_st1e (by decide) (fun q => tg0 q.2)) ?_
      refine hw_bin (w := ((φ 17 1) * 8) + z2) (a0 := 0) (b := 0) (e := 0) (by decide +kernel) rfl ?_
      obtain ⟨hl10, hu10, H⟩ := H
      refine hr_al (b := 0) (a0 := 0) (e := 0) (n := 64) (w := φ 16 ((((φ 17 1) * 8) + z2).toNat)) 16 rfl (by decide +kernel) (by decide) hl10 hu10 ((hf_up_ne (fun q => absurd q.1 (by decide))).trans ((hf_up_ne (fun q => absurd q.1 (by decide))).trans (hf_up_ne (fun q => absurd q.1 (by decide))))) ?_
      refine hw_st (L' := (jm_st1 (jm_st1 (jm_st1 [(0, (2, 17)), (1, (2, 5)), (2, (0, v2))] 3 (0, z2)) 4 (0, (φ 23 ((v2).toNat)) + 1)) 5 (0, φ 16 ((((φ 17 1) * 8) + z2).toNat)))) (b := 5) (e := 1) (by decide +kernel) rfl ?_
      refine hw_ld (b := 5) (e := 1) (by decide +kernel) get_st1e ?_
      refine hw_k (c := (-1 : Int)) (b := 0) (e := 1) (by decide +kernel) ?_
      obtain ⟨hz11, hy11, ht11, hf11⟩ := H
      refine hw_if2 (a0 := 0) (b := 0) (e := 133) (by decide +kernel) hz11 hy11 (fun q => ?_) (fun q => ?_)
      · have H := ht11 q
        refine hw_ald (b := 0) (e := 0) (by decide +kernel) (get_st1 (get_st1 (get_st1 rfl (by decide) (fun q => absurd q.1 (by decide))) (by decide) (fun q => absurd q.1 (by decide))) (by decide) (fun q => absurd q.1 (by decide))) (by decide) ?_
        refine hw_ld (b := 3) (e := 0) (by decide +kernel) (get_st1 (get_st1 get_st1e (by decide) (fun q => tg0 q.2)) (by decide) (fun q => absurd q.1 (by decide))) ?_
        refine hr_pi (b := 4) (e := 1) 17 rfl (by decide +kernel) ?_
        refine hw_ald (b := 0) (e := 0) (by decide +kernel) (get_st1 (get_st1 (get_st1 rfl (by decide) (fun q => absurd q.1 (by decide))) (by decide) (fun q => absurd q.1 (by decide))) (by decide) (fun q => absurd q.1 (by decide))) (by decide) ?_
        refine hw_ld (b := 2) (e := 0) (by decide +kernel) (get_st1 (get_st1 (get_st1 rfl (by decide) (fun q => tg0 q.2)) (by decide) (fun q => absurd q.1 (by decide))) (by decide) (fun q => absurd q.1 (by decide))) ?_
        refine hr_pi (b := 4) (e := 2) 17 rfl (by decide +kernel) ?_
        exact hw_vret (a0 := 0) (e := 0) (by decide +kernel) H
      · have H := hf11 q
        refine hw_ald (b := 0) (e := 0) (by decide +kernel) (get_st1 (get_st1 (get_st1 rfl (by decide) (fun q => absurd q.1 (by decide))) (by decide) (fun q => absurd q.1 (by decide))) (by decide) (fun q => absurd q.1 (by decide))) (by decide) ?_
        refine hw_ald (b := 0) (e := 0) (by decide +kernel) (get_st1 (get_st1 (get_st1 rfl (by decide) (fun q => absurd q.1 (by decide))) (by decide) (fun q => absurd q.1 (by decide))) (by decide) (fun q => absurd q.1 (by decide))) (by decide) ?_
        refine hr_gi (w := φ 17 3) (b := 4) (e := 3) 17 rfl (by decide +kernel) ((hf_up_ne (fun q => absurd q.2 (by decide))).trans ((hf_up_ne (fun q => absurd q.1 (by decide))).trans (hf_up_ne (fun q => absurd q.1 (by decide))))) ?_
        refine hw_k (c := 1) (b := 0) (e := 1) (by decide +kernel) ?_
        refine hw_ld (b := 5) (e := 1) (by decide +kernel) get_st1e ?_
        refine hw_bin (w := hb_shl 1 (φ 16 ((((φ 17 1) * 8) + z2).toNat))) (a0 := 0) (b := 6) (e := 0) (by decide +kernel) rfl ?_
        refine hw_bin (w := hb_or (φ 17 3) (hb_shl 1 (φ 16 ((((φ 17 1) * 8) + z2).toNat)))) (a0 := 0) (b := 4) (e := 0) (by decide +kernel) rfl ?_
        refine hw_ald (b := 1) (e := 0) (by decide +kernel) (get_st1 (get_st1 (get_st1 rfl (by decide) (fun q => absurd q.1 (by decide))) (by decide) (fun q => absurd q.1 (by decide))) (by decide) (fun q => absurd q.1 (by decide))) (by decide) ?_
        refine hr_gr (w := 15) (b := 3) (e := 9) 5 rfl (by decide +kernel) ?_
        refine hw_ld (b := 5) (e := 1) (by decide +kernel) get_st1e ?_
        obtain ⟨hl13, hu13, H⟩ := H
        refine hr_al (b := 0) (a0 := 0) (e := 0) (n := 8) (w := φ 15 ((φ 16 ((((φ 17 1) * 8) + z2).toNat)).toNat)) 15 rfl (by decide +kernel) (by decide) hl13 hu13 ((hf_up_ne (fun q => absurd q.1 (by decide))).trans ((hf_up_ne (fun q => absurd q.1 (by decide))).trans (hf_up_ne (fun q => absurd q.1 (by decide))))) ?_
        refine hw_k (c := (-1 : Int)) (b := 0) (e := 1) (by decide +kernel) ?_
        refine hw_bin (w := hb_xor (φ 15 ((φ 16 ((((φ 17 1) * 8) + z2).toNat)).toNat)) (-1 : Int)) (a0 := 0) (b := 5) (e := 0) (by decide +kernel) rfl ?_
        refine hw_bin (w := hb_and (hb_or (φ 17 3) (hb_shl 1 (φ 16 ((((φ 17 1) * 8) + z2).toNat)))) (hb_xor (φ 15 ((φ 16 ((((φ 17 1) * 8) + z2).toNat)).toNat)) (-1 : Int))) (a0 := 0) (b := 3) (e := 0) (by decide +kernel) rfl ?_
        refine hr_pi (b := 4) (e := 3) 17 rfl (by decide +kernel) ?_
        refine hw_ald (b := 0) (e := 0) (by decide +kernel) (get_st1 (get_st1 (get_st1 rfl (by decide) (fun q => absurd q.1 (by decide))) (by decide) (fun q => absurd q.1 (by decide))) (by decide) (fun q => absurd q.1 (by decide))) (by decide) ?_
        refine hr_gr (w := 25) (b := 4) (e := 13) 17 rfl (by decide +kernel) ?_
        refine hw_ld (b := 5) (e := 1) (by decide +kernel) get_st1e ?_
        refine hw_dup2 (a0 := 0) (e := 0) (by decide +kernel) (by decide) (by decide) ?_
        obtain ⟨hl14, hu14, H⟩ := H
        refine hr_al (b := 0) (a0 := 0) (e := 0) (n := 8) (w := φ 25 ((φ 16 ((((φ 17 1) * 8) + z2).toNat)).toNat)) 25 rfl (by decide +kernel) (by decide) hl14 hu14 ((hf_up_ne (fun q => absurd q.1 (by decide))).trans ((hf_up_ne (fun q => absurd q.1 (by decide))).trans ((hf_up_ne (fun q => absurd q.1 (by decide))).trans (hf_up_ne (fun q => absurd q.1 (by decide)))))) ?_
        refine hw_k (c := 1) (b := 0) (e := 1) (by decide +kernel) ?_
        refine hw_bin (w := (φ 25 ((φ 16 ((((φ 17 1) * 8) + z2).toNat)).toNat)) + 1) (a0 := 0) (b := 0) (e := 0) (by decide +kernel) rfl ?_
        obtain ⟨hl15, hu15, H⟩ := H
        refine hr_as (a0 := 0) (e := 4) (n := 8) 25 rfl (by decide +kernel) hl15 hu15 ?_
        refine hw_ald (b := 0) (e := 0) (by decide +kernel) (get_st1 (get_st1 (get_st1 rfl (by decide) (fun q => absurd q.1 (by decide))) (by decide) (fun q => absurd q.1 (by decide))) (by decide) (fun q => absurd q.1 (by decide))) (by decide) ?_
        refine hw_ld (b := 3) (e := 0) (by decide +kernel) (get_st1 (get_st1 get_st1e (by decide) (fun q => tg0 q.2)) (by decide) (fun q => absurd q.1 (by decide))) ?_
        refine hr_pi (b := 4) (e := 1) 17 rfl (by decide +kernel) ?_
        refine hw_ald (b := 0) (e := 0) (by decide +kernel) (get_st1 (get_st1 (get_st1 rfl (by decide) (fun q => absurd q.1 (by decide))) (by decide) (fun q => absurd q.1 (by decide))) (by decide) (fun q => absurd q.1 (by decide))) (by decide) ?_
        refine hw_ld (b := 2) (e := 0) (by decide +kernel) (get_st1 (get_st1 (get_st1 rfl (by decide) (fun q => tg0 q.2)) (by decide) (fun q => absurd q.1 (by decide))) (by decide) (fun q => absurd q.1 (by decide))) ?_
        refine hr_pi (b := 4) (e := 2) 17 rfl (by decide +kernel) ?_
        exact hw_vret (a0 := 0) (e := 0) (by decide +kernel) H
    · have H := hf9 q
      refine hw_k (c := (-1 : Int)) (b := 0) (e := 1) (by decide +kernel) ?_
      refine hw_goto (a0 := 0) (b := 0) (e := 91) (by decide +kernel) ?_
      refine hw_st (L' := (jm_st1 (jm_st1 (jm_st1 [(0, (2, 17)), (1, (2, 5)), (2, (0, v2))] 3 (0, z2)) 4 (0, (φ 23 ((v2).toNat)) + 1)) 5 (0, (-1 : Int)))) (b := 5) (e := 1) (by decide +kernel) rfl ?_
      refine hw_ld (b := 5) (e := 1) (by decide +kernel) get_st1e ?_
      refine hw_k (c := (-1 : Int)) (b := 0) (e := 1) (by decide +kernel) ?_
      refine hw_if2 (a0 := 0) (b := 0) (e := 133) (by decide +kernel) (by unfold hi; omega) (by unfold hi; omega) (fun _ => ?_) (fun q => absurd (show (-1 : Int) = (-1 : Int) by decide) q)
      refine hw_ald (b := 0) (e := 0) (by decide +kernel) (get_st1 (get_st1 (get_st1 rfl (by decide) (fun q => absurd q.1 (by decide))) (by decide) (fun q => absurd q.1 (by decide))) (by decide) (fun q => absurd q.1 (by decide))) (by decide) ?_
      refine hw_ld (b := 3) (e := 0) (by decide +kernel) (get_st1 (get_st1 get_st1e (by decide) (fun q => tg0 q.2)) (by decide) (fun q => absurd q.1 (by decide))) ?_
      refine hr_pi (b := 4) (e := 1) 17 rfl (by decide +kernel) ?_
      refine hw_ald (b := 0) (e := 0) (by decide +kernel) (get_st1 (get_st1 (get_st1 rfl (by decide) (fun q => absurd q.1 (by decide))) (by decide) (fun q => absurd q.1 (by decide))) (by decide) (fun q => absurd q.1 (by decide))) (by decide) ?_
      refine hw_ld (b := 2) (e := 0) (by decide +kernel) (get_st1 (get_st1 (get_st1 rfl (by decide) (fun q => tg0 q.2)) (by decide) (fun q => absurd q.1 (by decide))) (by decide) (fun q => absurd q.1 (by decide))) ?_
      refine hr_pi (b := 4) (e := 2) 17 rfl (by decide +kernel) ?_
      exact hw_vret (a0 := 0) (e := 0) (by decide +kernel) H
  · have H := hf5 q
    refine hw_ld (b := 4) (e := 1) (by decide +kernel) get_st1e ?_
    refine hw_goto (a0 := 0) (b := 0) (e := 44) (by decide +kernel) ?_
    obtain ⟨hl19, hu19, H⟩ := H
    refine hr_as (a0 := 0) (e := 4) (n := 6) 23 rfl (by decide +kernel) hl19 hu19 ?_
    refine hw_ald (b := 0) (e := 0) (by decide +kernel) (get_st1 (get_st1 rfl (by decide) (fun q => absurd q.1 (by decide))) (by decide) (fun q => absurd q.1 (by decide))) (by decide) ?_
    refine hr_gr (w := 24) (b := 4) (e := 12) 17 rfl (by decide +kernel) ?_
    refine hw_ld (b := 2) (e := 0) (by decide +kernel) (get_st1 (get_st1 rfl (by decide) (fun q => tg0 q.2)) (by decide) (fun q => absurd q.1 (by decide))) ?_
    refine hw_dup2 (a0 := 0) (e := 0) (by decide +kernel) (by decide) (by decide) ?_
    obtain ⟨hl20, hu20, H⟩ := H
    refine hr_al (b := 0) (a0 := 0) (e := 0) (n := 6) (w := φ 24 ((v2).toNat)) 24 rfl (by decide +kernel) (by decide) hl20 hu20 (hf_up_ne (fun q => absurd q.1 (by decide))) ?_
    refine hw_k (c := 1) (b := 0) (e := 1) (by decide +kernel) ?_
    refine hw_bin (w := (φ 24 ((v2).toNat)) + 1) (a0 := 0) (b := 0) (e := 0) (by decide +kernel) rfl ?_
    obtain ⟨hl21, hu21, H⟩ := H
    refine hr_as (a0 := 0) (e := 4) (n := 6) 24 rfl (by decide +kernel) hl21 hu21 ?_
    refine hw_ald (b := 0) (e := 0) (by decide +kernel) (get_st1 (get_st1 rfl (by decide) (fun q => absurd q.1 (by decide))) (by decide) (fun q => absurd q.1 (by decide))) (by decide) ?_
    refine hw_dup (a0 := 0) (e := 0) (by decide +kernel) (by decide) ?_
    refine hr_gi (w := φ 17 4) (b := 4) (e := 4) 17 rfl (by decide +kernel) ((hf_up_ne (fun q => absurd q.1 (by decide))).trans (hf_up_ne (fun q => absurd q.1 (by decide)))) ?_
    refine hw_k (c := 1) (b := 0) (e := 1) (by decide +kernel) ?_
    refine hw_bin (w := (φ 17 4) + 1) (a0 := 0) (b := 0) (e := 0) (by decide +kernel) rfl ?_
    refine hr_pi (b := 4) (e := 4) 17 rfl (by decide +kernel) ?_
    refine hw_ald (b := 0) (e := 0) (by decide +kernel) (get_st1 (get_st1 rfl (by decide) (fun q => absurd q.1 (by decide))) (by decide) (fun q => absurd q.1 (by decide))) (by decide) ?_
    refine hr_gi (w := φ 17 1) (b := 4) (e := 1) 17 rfl (by decide +kernel) ((hf_up_ne (fun q => absurd q.2 (by decide))).trans ((hf_up_ne (fun q => absurd q.1 (by decide))).trans (hf_up_ne (fun q => absurd q.1 (by decide))))) ?_
    refine hw_k (c := (-1 : Int)) (b := 0) (e := 1) (by decide +kernel) ?_
    obtain ⟨hz22, hy22, ht22, hf22⟩ := H
    refine hw_if2 (a0 := 0) (b := 1) (e := 77) (by decide +kernel) hz22 hy22 (fun q => ?_) (fun q => ?_)
    · have H := ht22 q
      refine hw_ald (b := 1) (e := 0) (by decide +kernel) (get_st1 (get_st1 rfl (by decide) (fun q => absurd q.1 (by decide))) (by decide) (fun q => absurd q.1 (by decide))) (by decide) ?_
      refine hr_gr (w := 16) (b := 3) (e := 10) 5 rfl (by decide +kernel) ?_
      refine hw_ald (b := 0) (e := 0) (by decide +kernel) (get_st1 (get_st1 rfl (by decide) (fun q => absurd q.1 (by decide))) (by decide) (fun q => absurd q.1 (by decide))) (by decide) ?_
      refine hr_gi (w := φ 17 1) (b := 4) (e := 1) 17 rfl (by decide +kernel) ((hf_up_ne (fun q => absurd q.2 (by decide))).trans ((hf_up_ne (fun q => absurd q.1 (by decide))).trans (hf_up_ne (fun q => absurd q.1 (by decide))))) ?_
      refine hw_k (c := 8) (b := 1) (e := 2) (by decide +kernel) ?_
      refine hw_bin (w := (φ 17 1) * 8) (a0 := 0) (b := 2) (e := 0) (by decide +kernel) rfl ?_
      refine hw_ld (b := 3) (e := 0) (by decide +kernel) (get_st1 get_st1e (by decide) (fun q => tg0 q.2)) ?_
      refine hw_bin (w := ((φ 17 1) * 8) + z2) (a0 := 0) (b := 0) (e := 0) (by decide +kernel) rfl ?_
      obtain ⟨hl23, hu23, H⟩ := H
      refine hr_al (b := 0) (a0 := 0) (e := 0) (n := 64) (w := φ 16 ((((φ 17 1) * 8) + z2).toNat)) 16 rfl (by decide +kernel) (by decide) hl23 hu23 ((hf_up_ne (fun q => absurd q.1 (by decide))).trans ((hf_up_ne (fun q => absurd q.1 (by decide))).trans (hf_up_ne (fun q => absurd q.1 (by decide))))) ?_
      refine hw_st (L' := (jm_st1 (jm_st1 (jm_st1 [(0, (2, 17)), (1, (2, 5)), (2, (0, v2))] 3 (0, z2)) 4 (0, (φ 23 ((v2).toNat)) + 1)) 5 (0, φ 16 ((((φ 17 1) * 8) + z2).toNat)))) (b := 5) (e := 1) (by decide +kernel) rfl ?_
      refine hw_ld (b := 5) (e := 1) (by decide +kernel) get_st1e ?_
      refine hw_k (c := (-1 : Int)) (b := 0) (e := 1) (by decide +kernel) ?_
      obtain ⟨hz24, hy24, ht24, hf24⟩ := H
      refine hw_if2 (a0 := 0) (b := 0) (e := 133) (by decide +kernel) hz24 hy24 (fun q => ?_) (fun q => ?_)
      · have H := ht24 q
        refine hw_ald (b := 0) (e := 0) (by decide +kernel) (get_st1 (get_st1 (get_st1 rfl (by decide) (fun q => absurd q.1 (by decide))) (by decide) (fun q => absurd q.1 (by decide))) (by decide) (fun q => absurd q.1 (by decide))) (by decide) ?_
        refine hw_ld (b := 3) (e := 0) (by decide +kernel) (get_st1 (get_st1 get_st1e (by decide) (fun q => tg0 q.2)) (by decide) (fun q => absurd q.1 (by decide))) ?_
        refine hr_pi (b := 4) (e := 1) 17 rfl (by decide +kernel) ?_
        refine hw_ald (b := 0) (e := 0) (by decide +kernel) (get_st1 (get_st1 (get_st1 rfl (by decide) (fun q => absurd q.1 (by decide))) (by decide) (fun q => absurd q.1 (by decide))) (by decide) (fun q => absurd q.1 (by decide))) (by decide) ?_
        refine hw_ld (b := 2) (e := 0) (by decide +kernel) (get_st1 (get_st1 (get_st1 rfl (by decide) (fun q => tg0 q.2)) (by decide) (fun q => absurd q.1 (by decide))) (by decide) (fun q => absurd q.1 (by decide))) ?_
        refine hr_pi (b := 4) (e := 2) 17 rfl (by decide +kernel) ?_
        exact hw_vret (a0 := 0) (e := 0) (by decide +kernel) H
      · have H := hf24 q
        refine hw_ald (b := 0) (e := 0) (by decide +kernel) (get_st1 (get_st1 (get_st1 rfl (by decide) (fun q => absurd q.1 (by decide))) (by decide) (fun q => absurd q.1 (by decide))) (by decide) (fun q => absurd q.1 (by decide))) (by decide) ?_
        refine hw_ald (b := 0) (e := 0) (by decide +kernel) (get_st1 (get_st1 (get_st1 rfl (by decide) (fun q => absurd q.1 (by decide))) (by decide) (fun q => absurd q.1 (by decide))) (by decide) (fun q => absurd q.1 (by decide))) (by decide) ?_
        refine hr_gi (w := φ 17 3) (b := 4) (e := 3) 17 rfl (by decide +kernel) ((hf_up_ne (fun q => absurd q.2 (by decide))).trans ((hf_up_ne (fun q => absurd q.1 (by decide))).trans (hf_up_ne (fun q => absurd q.1 (by decide))))) ?_
        refine hw_k (c := 1) (b := 0) (e := 1) (by decide +kernel) ?_
        refine hw_ld (b := 5) (e := 1) (by decide +kernel) get_st1e ?_
        refine hw_bin (w := hb_shl 1 (φ 16 ((((φ 17 1) * 8) + z2).toNat))) (a0 := 0) (b := 6) (e := 0) (by decide +kernel) rfl ?_
        refine hw_bin (w := hb_or (φ 17 3) (hb_shl 1 (φ 16 ((((φ 17 1) * 8) + z2).toNat)))) (a0 := 0) (b := 4) (e := 0) (by decide +kernel) rfl ?_
        refine hw_ald (b := 1) (e := 0) (by decide +kernel) (get_st1 (get_st1 (get_st1 rfl (by decide) (fun q => absurd q.1 (by decide))) (by decide) (fun q => absurd q.1 (by decide))) (by decide) (fun q => absurd q.1 (by decide))) (by decide) ?_
        refine hr_gr (w := 15) (b := 3) (e := 9) 5 rfl (by decide +kernel) ?_
        refine hw_ld (b := 5) (e := 1) (by decide +kernel) get_st1e ?_
        obtain ⟨hl26, hu26, H⟩ := H
        refine hr_al (b := 0) (a0 := 0) (e := 0) (n := 8) (w := φ 15 ((φ 16 ((((φ 17 1) * 8) + z2).toNat)).toNat)) 15 rfl (by decide +kernel) (by decide) hl26 hu26 ((hf_up_ne (fun q => absurd q.1 (by decide))).trans ((hf_up_ne (fun q => absurd q.1 (by decide))).trans (hf_up_ne (fun q => absurd q.1 (by decide))))) ?_
        refine hw_k (c := (-1 : Int)) (b := 0) (e := 1) (by decide +kernel) ?_
        refine hw_bin (w := hb_xor (φ 15 ((φ 16 ((((φ 17 1) * 8) + z2).toNat)).toNat)) (-1 : Int)) (a0 := 0) (b := 5) (e := 0) (by decide +kernel) rfl ?_
        refine hw_bin (w := hb_and (hb_or (φ 17 3) (hb_shl 1 (φ 16 ((((φ 17 1) * 8) + z2).toNat)))) (hb_xor (φ 15 ((φ 16 ((((φ 17 1) * 8) + z2).toNat)).toNat)) (-1 : Int))) (a0 := 0) (b := 3) (e := 0) (by decide +kernel) rfl ?_
        refine hr_pi (b := 4) (e := 3) 17 rfl (by decide +kernel) ?_
        refine hw_ald (b := 0) (e := 0) (by decide +kernel) (get_st1 (get_st1 (get_st1 rfl (by decide) (fun q => absurd q.1 (by decide))) (by decide) (fun q => absurd q.1 (by decide))) (by decide) (fun q => absurd q.1 (by decide))) (by decide) ?_
        refine hr_gr (w := 25) (b := 4) (e := 13) 17 rfl (by decide +kernel) ?_
        refine hw_ld (b := 5) (e := 1) (by decide +kernel) get_st1e ?_
        refine hw_dup2 (a0 := 0) (e := 0) (by decide +kernel) (by decide) (by decide) ?_
        obtain ⟨hl27, hu27, H⟩ := H
        refine hr_al (b := 0) (a0 := 0) (e := 0) (n := 8) (w := φ 25 ((φ 16 ((((φ 17 1) * 8) + z2).toNat)).toNat)) 25 rfl (by decide +kernel) (by decide) hl27 hu27 ((hf_up_ne (fun q => absurd q.1 (by decide))).trans ((hf_up_ne (fun q => absurd q.1 (by decide))).trans ((hf_up_ne (fun q => absurd q.1 (by decide))).trans (hf_up_ne (fun q => absurd q.1 (by decide)))))) ?_
        refine hw_k (c := 1) (b := 0) (e := 1) (by decide +kernel) ?_
        refine hw_bin (w := (φ 25 ((φ 16 ((((φ 17 1) * 8) + z2).toNat)).toNat)) + 1) (a0 := 0) (b := 0) (e := 0) (by decide +kernel) rfl ?_
        obtain ⟨hl28, hu28, H⟩ := H
        refine hr_as (a0 := 0) (e := 4) (n := 8) 25 rfl (by decide +kernel) hl28 hu28 ?_
        refine hw_ald (b := 0) (e := 0) (by decide +kernel) (get_st1 (get_st1 (get_st1 rfl (by decide) (fun q => absurd q.1 (by decide))) (by decide) (fun q => absurd q.1 (by decide))) (by decide) (fun q => absurd q.1 (by decide))) (by decide) ?_
        refine hw_ld (b := 3) (e := 0) (by decide +kernel) (get_st1 (get_st1 get_st1e (by decide) (fun q => tg0 q.2)) (by decide) (fun q => absurd q.1 (by decide))) ?_
        refine hr_pi (b := 4) (e := 1) 17 rfl (by decide +kernel) ?_
        refine hw_ald (b := 0) (e := 0) (by decide +kernel) (get_st1 (get_st1 (get_st1 rfl (by decide) (fun q => absurd q.1 (by decide))) (by decide) (fun q => absurd q.1 (by decide))) (by decide) (fun q => absurd q.1 (by decide))) (by decide) ?_
        refine hw_ld (b := 2) (e := 0) (by decide +kernel) (get_st1 (get_st1 (get_st1 rfl (by decide) (fun q => tg0 q.2)) (by decide) (fun q => absurd q.1 (by decide))) (by decide) (fun q => absurd q.1 (by decide))) ?_
        refine hr_pi (b := 4) (e := 2) 17 rfl (by decide +kernel) ?_
        exact hw_vret (a0 := 0) (e := 0) (by decide +kernel) H
    · have H := hf22 q
      refine hw_k (c := (-1 : Int)) (b := 0) (e := 1) (by decide +kernel) ?_
      refine hw_goto (a0 := 0) (b := 0) (e := 91) (by decide +kernel) ?_
      refine hw_st (L' := (jm_st1 (jm_st1 (jm_st1 [(0, (2, 17)), (1, (2, 5)), (2, (0, v2))] 3 (0, z2)) 4 (0, (φ 23 ((v2).toNat)) + 1)) 5 (0, (-1 : Int)))) (b := 5) (e := 1) (by decide +kernel) rfl ?_
      refine hw_ld (b := 5) (e := 1) (by decide +kernel) get_st1e ?_
      refine hw_k (c := (-1 : Int)) (b := 0) (e := 1) (by decide +kernel) ?_
      refine hw_if2 (a0 := 0) (b := 0) (e := 133) (by decide +kernel) (by unfold hi; omega) (by unfold hi; omega) (fun _ => ?_) (fun q => absurd (show (-1 : Int) = (-1 : Int) by decide) q)
      refine hw_ald (b := 0) (e := 0) (by decide +kernel) (get_st1 (get_st1 (get_st1 rfl (by decide) (fun q => absurd q.1 (by decide))) (by decide) (fun q => absurd q.1 (by decide))) (by decide) (fun q => absurd q.1 (by decide))) (by decide) ?_
      refine hw_ld (b := 3) (e := 0) (by decide +kernel) (get_st1 (get_st1 get_st1e (by decide) (fun q => tg0 q.2)) (by decide) (fun q => absurd q.1 (by decide))) ?_
      refine hr_pi (b := 4) (e := 1) 17 rfl (by decide +kernel) ?_
      refine hw_ald (b := 0) (e := 0) (by decide +kernel) (get_st1 (get_st1 (get_st1 rfl (by decide) (fun q => absurd q.1 (by decide))) (by decide) (fun q => absurd q.1 (by decide))) (by decide) (fun q => absurd q.1 (by decide))) (by decide) ?_
      refine hw_ld (b := 2) (e := 0) (by decide +kernel) (get_st1 (get_st1 (get_st1 rfl (by decide) (fun q => tg0 q.2)) (by decide) (fun q => absurd q.1 (by decide))) (by decide) (fun q => absurd q.1 (by decide))) ?_
      refine hr_pi (b := 4) (e := 2) 17 rfl (by decide +kernel) ?_
      exact hw_vret (a0 := 0) (e := 0) (by decide +kernel) H
theorem sf_93_17_5 {sc : List Int} {d : Nat} {φ : hf_F} {x : Nat} {Q : Option jm_V → hf_F → Nat → Prop} {v2 : Int} (hI : Inv φ) (h2a : 0 ≤ v2) (h2b : v2 ≤ 5) (hx0 : 1 ≤ φ 21 ((v2).toNat) ∧ φ 21 ((v2).toNat) ≤ 6) (hQ : ∀ ψ : hf_F, Inv ψ → Fr [23, 24, 25, 18001, 18002, 18003, 18004] φ ψ → F_State_speak_17_5 φ v2 = ψ → Q none ψ x) : hw sc (d + 1) 93 0 [(0, (2, 17)), (1, (2, 5)), (2, (0, v2))] [] φ x Q := by
  apply sf_93_17_5_v
  have e0 : F_State_speak_17_5 φ v2 = _ := rfl
  refine ⟨by omega, by omega, ?_⟩
  have f1 := iv_ar (a := 23) (s := 0) (t := 6) (lo := 0) (u := 5) (z := v2) hI (by decide +kernel) (by omega) (by omega)
  refine sf_71_17 (φ := φ) hI (by omega) (by omega) (by omega) (by omega) (fun z2 hp2 hE2 => ⟨rfl, rfl, z2, rfl, ?_⟩)
  have e2 := e0.trans (bnp_e hE2)
  refine ⟨by omega, by omega, ?_⟩
  refine ⟨by omega, by omega, ?_⟩
  have f2 := iv_ar (a := 21) (s := 0) (t := 6) (lo := 0) (u := 6) (z := v2) hI (by decide +kernel) (by omega) (by omega)
  refine ⟨by unfold hi; omega, by unfold hi; omega, fun q5 => ?_, fun q5 => ?_⟩
  · skip
    have e5a := e2.trans (if_pos q5)
    refine ⟨by omega, by omega, ?_⟩
    have i3 : Inv (hf_up φ 23 ((v2).toNat) 0) := iv_upI (s := 0) (t := 6) (lo := 0) (u := 5) (z := v2) hI (by decide +kernel) (by omega) (by omega) (by omega) (by omega)
    have r3 : Fr [23, 24, 25, 18001, 18002, 18003, 18004] φ (hf_up φ 23 ((v2).toNat) 0) := fr_upa (fr_rf) (by decide)
    refine ⟨by omega, by omega, ?_⟩
    refine ⟨by omega, by omega, ?_⟩
    have i4 : Inv (hf_up (hf_up φ 23 ((v2).toNat) 0) 24 ((v2).toNat) ((φ 24 ((v2).toNat)) + 1)) := iv_upIn i3 (by decide) (by decide +kernel)
    have r4 : Fr [23, 24, 25, 18001, 18002, 18003, 18004] φ (hf_up (hf_up φ 23 ((v2).toNat) 0) 24 ((v2).toNat) ((φ 24 ((v2).toNat)) + 1)) := fr_upa r3 (by decide)
    have i5 : Inv (hf_up (hf_up (hf_up φ 23 ((v2).toNat) 0) 24 ((v2).toNat) ((φ 24 ((v2).toNat)) + 1)) 17 4 ((φ 17 4) + 1)) := iv_upn i4 (by decide) (by decide) (by decide +kernel)
    have r5 : Fr [23, 24, 25, 18001, 18002, 18003, 18004] φ (hf_up (hf_up (hf_up φ 23 ((v2).toNat) 0) 24 ((v2).toNat) ((φ 24 ((v2).toNat)) + 1)) 17 4 ((φ 17 4) + 1)) := fr_up r4 (by decide)
    have f6 := iv_at (a := 17) (k := 1) (lo := (-1 : Int)) (u := 7) hI (by decide +kernel)
    refine ⟨by unfold hi; omega, by unfold hi; omega, fun q9 => ?_, fun q9 => ?_⟩
    · skip
      have e9a := e5a.trans (if_pos q9)
      refine ⟨by omega, by omega, ?_⟩
      have f7 := iv_ar (a := 16) (s := 0) (t := 64) (lo := (-1 : Int)) (u := 7) (z := ((φ 17 1) * 8) + z2) hI (by decide +kernel) (by omega) (by omega)
      refine ⟨by unfold hi; omega, by unfold hi; omega, fun q11 => ?_, fun q11 => ?_⟩
      · skip
        have e11a := e9a.trans (if_pos q11)
        have i8 : Inv (hf_up (hf_up (hf_up (hf_up φ 23 ((v2).toNat) 0) 24 ((v2).toNat) ((φ 24 ((v2).toNat)) + 1)) 17 4 ((φ 17 4) + 1)) 17 1 z2) := iv_up (lo := (-1 : Int)) (u := 7) i5 (by decide +kernel) (by omega) (by omega)
        have r8 : Fr [23, 24, 25, 18001, 18002, 18003, 18004] φ (hf_up (hf_up (hf_up (hf_up φ 23 ((v2).toNat) 0) 24 ((v2).toNat) ((φ 24 ((v2).toNat)) + 1)) 17 4 ((φ 17 4) + 1)) 17 1 z2) := fr_up r5 (by decide)
        have i9 : Inv (hf_up (hf_up (hf_up (hf_up (hf_up φ 23 ((v2).toNat) 0) 24 ((v2).toNat) ((φ 24 ((v2).toNat)) + 1)) 17 4 ((φ 17 4) + 1)) 17 1 z2) 17 2 v2) := iv_up (lo := (-1 : Int)) (u := 5) i8 (by decide +kernel) (by omega) (by omega)
        have r9 : Fr [23, 24, 25, 18001, 18002, 18003, 18004] φ (hf_up (hf_up (hf_up (hf_up (hf_up φ 23 ((v2).toNat) 0) 24 ((v2).toNat) ((φ 24 ((v2).toNat)) + 1)) 17 4 ((φ 17 4) + 1)) 17 1 z2) 17 2 v2) := fr_up r8 (by decide)
        exact hQ (hf_up (hf_up (hf_up (hf_up (hf_up φ 23 ((v2).toNat) 0) 24 ((v2).toNat) ((φ 24 ((v2).toNat)) + 1)) 17 4 ((φ 17 4) + 1)) 17 1 z2) 17 2 v2) i9 r9 e11a
      · skip
        have e11b := e9a.trans (if_neg q11)
        have f10 := iv_at (a := 17) (k := 3) (lo := (-2147483648 : Int)) (u := 2147483647) hI (by decide +kernel)
        have f11 := hr_shl1 (φ 16 ((((φ 17 1) * 8) + z2).toNat))
        have f12 := hr_shl 1 (φ 16 ((((φ 17 1) * 8) + z2).toNat))
        have f13 := hr_or (φ 17 3) (hb_shl 1 (φ 16 ((((φ 17 1) * 8) + z2).toNat)))
        refine ⟨by omega, by omega, ?_⟩
        have f14 := iv_ar (a := 15) (s := 0) (t := 8) (lo := (-2147483648 : Int)) (u := 2147483647) (z := φ 16 ((((φ 17 1) * 8) + z2).toNat)) hI (by decide +kernel) (by omega) (by omega)
        have f15 := hr_xor (φ 15 ((φ 16 ((((φ 17 1) * 8) + z2).toNat)).toNat)) (-1 : Int)
        have f16 := hr_and0 (hb_or (φ 17 3) (hb_shl 1 (φ 16 ((((φ 17 1) * 8) + z2).toNat)))) (hb_xor (φ 15 ((φ 16 ((((φ 17 1) * 8) + z2).toNat)).toNat)) (-1 : Int))
        have f17 := hr_and (hb_or (φ 17 3) (hb_shl 1 (φ 16 ((((φ 17 1) * 8) + z2).toNat)))) (hb_xor (φ 15 ((φ 16 ((((φ 17 1) * 8) + z2).toNat)).toNat)) (-1 : Int))
        have i18 : Inv (hf_up (hf_up (hf_up (hf_up φ 23 ((v2).toNat) 0) 24 ((v2).toNat) ((φ 24 ((v2).toNat)) + 1)) 17 4 ((φ 17 4) + 1)) 17 3 (hb_and (hb_or (φ 17 3) (hb_shl 1 (φ 16 ((((φ 17 1) * 8) + z2).toNat)))) (hb_xor (φ 15 ((φ 16 ((((φ 17 1) * 8) + z2).toNat)).toNat)) (-1 : Int)))) := iv_up (lo := (-2147483648 : Int)) (u := 2147483647) i5 (by decide +kernel) (by omega) (by omega)
        have r18 : Fr [23, 24, 25, 18001, 18002, 18003, 18004] φ (hf_up (hf_up (hf_up (hf_up φ 23 ((v2).toNat) 0) 24 ((v2).toNat) ((φ 24 ((v2).toNat)) + 1)) 17 4 ((φ 17 4) + 1)) 17 3 (hb_and (hb_or (φ 17 3) (hb_shl 1 (φ 16 ((((φ 17 1) * 8) + z2).toNat)))) (hb_xor (φ 15 ((φ 16 ((((φ 17 1) * 8) + z2).toNat)).toNat)) (-1 : Int)))) := fr_up r5 (by decide)
        refine ⟨by omega, by omega, ?_⟩
        refine ⟨by omega, by omega, ?_⟩
        have i19 : Inv (hf_up (hf_up (hf_up (hf_up (hf_up φ 23 ((v2).toNat) 0) 24 ((v2).toNat) ((φ 24 ((v2).toNat)) + 1)) 17 4 ((φ 17 4) + 1)) 17 3 (hb_and (hb_or (φ 17 3) (hb_shl 1 (φ 16 ((((φ 17 1) * 8) + z2).toNat)))) (hb_xor (φ 15 ((φ 16 ((((φ 17 1) * 8) + z2).toNat)).toNat)) (-1 : Int)))) 25 ((φ 16 ((((φ 17 1) * 8) + z2).toNat)).toNat) ((φ 25 ((φ 16 ((((φ 17 1) * 8) + z2).toNat)).toNat)) + 1)) := iv_upIn i18 (by decide) (by decide +kernel)
        have r19 : Fr [23, 24, 25, 18001, 18002, 18003, 18004] φ (hf_up (hf_up (hf_up (hf_up (hf_up φ 23 ((v2).toNat) 0) 24 ((v2).toNat) ((φ 24 ((v2).toNat)) + 1)) 17 4 ((φ 17 4) + 1)) 17 3 (hb_and (hb_or (φ 17 3) (hb_shl 1 (φ 16 ((((φ 17 1) * 8) + z2).toNat)))) (hb_xor (φ 15 ((φ 16 ((((φ 17 1) * 8) + z2).toNat)).toNat)) (-1 : Int)))) 25 ((φ 16 ((((φ 17 1) * 8) + z2).toNat)).toNat) ((φ 25 ((φ 16 ((((φ 17 1) * 8) + z2).toNat)).toNat)) + 1)) := fr_upa r18 (by decide)
        have i20 : Inv (hf_up (hf_up (hf_up (hf_up (hf_up (hf_up φ 23 ((v2).toNat) 0) 24 ((v2).toNat) ((φ 24 ((v2).toNat)) + 1)) 17 4 ((φ 17 4) + 1)) 17 3 (hb_and (hb_or (φ 17 3) (hb_shl 1 (φ 16 ((((φ 17 1) * 8) + z2).toNat)))) (hb_xor (φ 15 ((φ 16 ((((φ 17 1) * 8) + z2).toNat)).toNat)) (-1 : Int)))) 25 ((φ 16 ((((φ 17 1) * 8) + z2).toNat)).toNat) ((φ 25 ((φ 16 ((((φ 17 1) * 8) + z2).toNat)).toNat)) + 1)) 17 1 z2) := iv_up (lo := (-1 : Int)) (u := 7) i19 (by decide +kernel) (by omega) (by omega)
        have r20 : Fr [23, 24, 25, 18001, 18002, 18003, 18004] φ (hf_up (hf_up (hf_up (hf_up (hf_up (hf_up φ 23 ((v2).toNat) 0) 24 ((v2).toNat) ((φ 24 ((v2).toNat)) + 1)) 17 4 ((φ 17 4) + 1)) 17 3 (hb_and (hb_or (φ 17 3) (hb_shl 1 (φ 16 ((((φ 17 1) * 8) + z2).toNat)))) (hb_xor (φ 15 ((φ 16 ((((φ 17 1) * 8) + z2).toNat)).toNat)) (-1 : Int)))) 25 ((φ 16 ((((φ 17 1) * 8) + z2).toNat)).toNat) ((φ 25 ((φ 16 ((((φ 17 1) * 8) + z2).toNat)).toNat)) + 1)) 17 1 z2) := fr_up r19 (by decide)
        have i21 : Inv (hf_up (hf_up (hf_up (hf_up (hf_up (hf_up (hf_up φ 23 ((v2).toNat) 0) 24 ((v2).toNat) ((φ 24 ((v2).toNat)) + 1)) 17 4 ((φ 17 4) + 1)) 17 3 (hb_and (hb_or (φ 17 3) (hb_shl 1 (φ 16 ((((φ 17 1) * 8) + z2).toNat)))) (hb_xor (φ 15 ((φ 16 ((((φ 17 1) * 8) + z2).toNat)).toNat)) (-1 : Int)))) 25 ((φ 16 ((((φ 17 1) * 8) + z2).toNat)).toNat) ((φ 25 ((φ 16 ((((φ 17 1) * 8) + z2).toNat)).toNat)) + 1)) 17 1 z2) 17 2 v2) := iv_up (lo := (-1 : Int)) (u := 5) i20 (by decide +kernel) (by omega) (by omega)
        have r21 : Fr [23, 24, 25, 18001, 18002, 18003, 18004] φ (hf_up (hf_up (hf_up (hf_up (hf_up (hf_up (hf_up φ 23 ((v2).toNat) 0) 24 ((v2).toNat) ((φ 24 ((v2).toNat)) + 1)) 17 4 ((φ 17 4) + 1)) 17 3 (hb_and (hb_or (φ 17 3) (hb_shl 1 (φ 16 ((((φ 17 1) * 8) + z2).toNat)))) (hb_xor (φ 15 ((φ 16 ((((φ 17 1) * 8) + z2).toNat)).toNat)) (-1 : Int)))) 25 ((φ 16 ((((φ 17 1) * 8) + z2).toNat)).toNat) ((φ 25 ((φ 16 ((((φ 17 1) * 8) + z2).toNat)).toNat)) + 1)) 17 1 z2) 17 2 v2) := fr_up r20 (by decide)
        exact hQ (hf_up (hf_up (hf_up (hf_up (hf_up (hf_up (hf_up φ 23 ((v2).toNat) 0) 24 ((v2).toNat) ((φ 24 ((v2).toNat)) + 1)) 17 4 ((φ 17 4) + 1)) 17 3 (hb_and (hb_or (φ 17 3) (hb_shl 1 (φ 16 ((((φ 17 1) * 8) + z2).toNat)))) (hb_xor (φ 15 ((φ 16 ((((φ 17 1) * 8) + z2).toNat)).toNat)) (-1 : Int)))) 25 ((φ 16 ((((φ 17 1) * 8) + z2).toNat)).toNat) ((φ 25 ((φ 16 ((((φ 17 1) * 8) + z2).toNat)).toNat)) + 1)) 17 1 z2) 17 2 v2) i21 r21 e11b
    · skip
      have e9b := e5a.trans (if_neg q9)
      have i22 : Inv (hf_up (hf_up (hf_up (hf_up φ 23 ((v2).toNat) 0) 24 ((v2).toNat) ((φ 24 ((v2).toNat)) + 1)) 17 4 ((φ 17 4) + 1)) 17 1 z2) := iv_up (lo := (-1 : Int)) (u := 7) i5 (by decide +kernel) (by omega) (by omega)
      have r22 : Fr [23, 24, 25, 18001, 18002, 18003, 18004] φ (hf_up (hf_up (hf_up (hf_up φ 23 ((v2).toNat) 0) 24 ((v2).toNat) ((φ 24 ((v2).toNat)) + 1)) 17 4 ((φ 17 4) + 1)) 17 1 z2) := fr_up r5 (by decide)
      have i23 : Inv (hf_up (hf_up (hf_up (hf_up (hf_up φ 23 ((v2).toNat) 0) 24 ((v2).toNat) ((φ 24 ((v2).toNat)) + 1)) 17 4 ((φ 17 4) + 1)) 17 1 z2) 17 2 v2) := iv_up (lo := (-1 : Int)) (u := 5) i22 (by decide +kernel) (by omega) (by omega)
      have r23 : Fr [23, 24, 25, 18001, 18002, 18003, 18004] φ (hf_up (hf_up (hf_up (hf_up (hf_up φ 23 ((v2).toNat) 0) 24 ((v2).toNat) ((φ 24 ((v2).toNat)) + 1)) 17 4 ((φ 17 4) + 1)) 17 1 z2) 17 2 v2) := fr_up r22 (by decide)
      exact hQ (hf_up (hf_up (hf_up (hf_up (hf_up φ 23 ((v2).toNat) 0) 24 ((v2).toNat) ((φ 24 ((v2).toNat)) + 1)) 17 4 ((φ 17 4) + 1)) 17 1 z2) 17 2 v2) i23 r23 e9b
  · skip
    have e5b := e2.trans (if_neg q5)
    refine ⟨by omega, by omega, ?_⟩
    have i24 : Inv (hf_up φ 23 ((v2).toNat) ((φ 23 ((v2).toNat)) + 1)) := iv_upI (s := 0) (t := 6) (lo := 0) (u := 5) (z := v2) hI (by decide +kernel) (by omega) (by omega) (by omega) (by omega)
    have r24 : Fr [23, 24, 25, 18001, 18002, 18003, 18004] φ (hf_up φ 23 ((v2).toNat) ((φ 23 ((v2).toNat)) + 1)) := fr_upa (fr_rf) (by decide)
    refine ⟨by omega, by omega, ?_⟩
    refine ⟨by omega, by omega, ?_⟩
    have i25 : Inv (hf_up (hf_up φ 23 ((v2).toNat) ((φ 23 ((v2).toNat)) + 1)) 24 ((v2).toNat) ((φ 24 ((v2).toNat)) + 1)) := iv_upIn i24 (by decide) (by decide +kernel)
    have r25 : Fr [23, 24, 25, 18001, 18002, 18003, 18004] φ (hf_up (hf_up φ 23 ((v2).toNat) ((φ 23 ((v2).toNat)) + 1)) 24 ((v2).toNat) ((φ 24 ((v2).toNat)) + 1)) := fr_upa r24 (by decide)
    have i26 : Inv (hf_up (hf_up (hf_up φ 23 ((v2).toNat) ((φ 23 ((v2).toNat)) + 1)) 24 ((v2).toNat) ((φ 24 ((v2).toNat)) + 1)) 17 4 ((φ 17 4) + 1)) := iv_upn i25 (by decide) (by decide) (by decide +kernel)
    have r26 : Fr [23, 24, 25, 18001, 18002, 18003, 18004] φ (hf_up (hf_up (hf_up φ 23 ((v2).toNat) ((φ 23 ((v2).toNat)) + 1)) 24 ((v2).toNat) ((φ 24 ((v2).toNat)) + 1)) 17 4 ((φ 17 4) + 1)) := fr_up r25 (by decide)
    have f27 := iv_at (a := 17) (k := 1) (lo := (-1 : Int)) (u := 7) hI (by decide +kernel)
    refine ⟨by unfold hi; omega, by unfold hi; omega, fun q22 => ?_, fun q22 => ?_⟩
    · skip
      have e22a := e5b.trans (if_pos q22)
      refine ⟨by omega, by omega, ?_⟩
      have f28 := iv_ar (a := 16) (s := 0) (t := 64) (lo := (-1 : Int)) (u := 7) (z := ((φ 17 1) * 8) + z2) hI (by decide +kernel) (by omega) (by omega)
      refine ⟨by unfold hi; omega, by unfold hi; omega, fun q24 => ?_, fun q24 => ?_⟩
      · skip
        have e24a := e22a.trans (if_pos q24)
        have i29 : Inv (hf_up (hf_up (hf_up (hf_up φ 23 ((v2).toNat) ((φ 23 ((v2).toNat)) + 1)) 24 ((v2).toNat) ((φ 24 ((v2).toNat)) + 1)) 17 4 ((φ 17 4) + 1)) 17 1 z2) := iv_up (lo := (-1 : Int)) (u := 7) i26 (by decide +kernel) (by omega) (by omega)
        have r29 : Fr [23, 24, 25, 18001, 18002, 18003, 18004] φ (hf_up (hf_up (hf_up (hf_up φ 23 ((v2).toNat) ((φ 23 ((v2).toNat)) + 1)) 24 ((v2).toNat) ((φ 24 ((v2).toNat)) + 1)) 17 4 ((φ 17 4) + 1)) 17 1 z2) := fr_up r26 (by decide)
        have i30 : Inv (hf_up (hf_up (hf_up (hf_up (hf_up φ 23 ((v2).toNat) ((φ 23 ((v2).toNat)) + 1)) 24 ((v2).toNat) ((φ 24 ((v2).toNat)) + 1)) 17 4 ((φ 17 4) + 1)) 17 1 z2) 17 2 v2) := iv_up (lo := (-1 : Int)) (u := 5) i29 (by decide +kernel) (by omega) (by omega)
        have r30 : Fr [23, 24, 25, 18001, 18002, 18003, 18004] φ (hf_up (hf_up (hf_up (hf_up (hf_up φ 23 ((v2).toNat) ((φ 23 ((v2).toNat)) + 1)) 24 ((v2).toNat) ((φ 24 ((v2).toNat)) + 1)) 17 4 ((φ 17 4) + 1)) 17 1 z2) 17 2 v2) := fr_up r29 (by decide)
        exact hQ (hf_up (hf_up (hf_up (hf_up (hf_up φ 23 ((v2).toNat) ((φ 23 ((v2).toNat)) + 1)) 24 ((v2).toNat) ((φ 24 ((v2).toNat)) + 1)) 17 4 ((φ 17 4) + 1)) 17 1 z2) 17 2 v2) i30 r30 e24a
      · skip
        have e24b := e22a.trans (if_neg q24)
        have f31 := iv_at (a := 17) (k := 3) (lo := (-2147483648 : Int)) (u := 2147483647) hI (by decide +kernel)
        have f32 := hr_shl1 (φ 16 ((((φ 17 1) * 8) + z2).toNat))
        have f33 := hr_shl 1 (φ 16 ((((φ 17 1) * 8) + z2).toNat))
        have f34 := hr_or (φ 17 3) (hb_shl 1 (φ 16 ((((φ 17 1) * 8) + z2).toNat)))
        refine ⟨by omega, by omega, ?_⟩
        have f35 := iv_ar (a := 15) (s := 0) (t := 8) (lo := (-2147483648 : Int)) (u := 2147483647) (z := φ 16 ((((φ 17 1) * 8) + z2).toNat)) hI (by decide +kernel) (by omega) (by omega)
        have f36 := hr_xor (φ 15 ((φ 16 ((((φ 17 1) * 8) + z2).toNat)).toNat)) (-1 : Int)
        have f37 := hr_and0 (hb_or (φ 17 3) (hb_shl 1 (φ 16 ((((φ 17 1) * 8) + z2).toNat)))) (hb_xor (φ 15 ((φ 16 ((((φ 17 1) * 8) + z2).toNat)).toNat)) (-1 : Int))
        have f38 := hr_and (hb_or (φ 17 3) (hb_shl 1 (φ 16 ((((φ 17 1) * 8) + z2).toNat)))) (hb_xor (φ 15 ((φ 16 ((((φ 17 1) * 8) + z2).toNat)).toNat)) (-1 : Int))
        have i39 : Inv (hf_up (hf_up (hf_up (hf_up φ 23 ((v2).toNat) ((φ 23 ((v2).toNat)) + 1)) 24 ((v2).toNat) ((φ 24 ((v2).toNat)) + 1)) 17 4 ((φ 17 4) + 1)) 17 3 (hb_and (hb_or (φ 17 3) (hb_shl 1 (φ 16 ((((φ 17 1) * 8) + z2).toNat)))) (hb_xor (φ 15 ((φ 16 ((((φ 17 1) * 8) + z2).toNat)).toNat)) (-1 : Int)))) := iv_up (lo := (-2147483648 : Int)) (u := 2147483647) i26 (by decide +kernel) (by omega) (by omega)
        have r39 : Fr [23, 24, 25, 18001, 18002, 18003, 18004] φ (hf_up (hf_up (hf_up (hf_up φ 23 ((v2).toNat) ((φ 23 ((v2).toNat)) + 1)) 24 ((v2).toNat) ((φ 24 ((v2).toNat)) + 1)) 17 4 ((φ 17 4) + 1)) 17 3 (hb_and (hb_or (φ 17 3) (hb_shl 1 (φ 16 ((((φ 17 1) * 8) + z2).toNat)))) (hb_xor (φ 15 ((φ 16 ((((φ 17 1) * 8) + z2).toNat)).toNat)) (-1 : Int)))) := fr_up r26 (by decide)
        refine ⟨by omega, by omega, ?_⟩
        refine ⟨by omega, by omega, ?_⟩
        have i40 : Inv (hf_up (hf_up (hf_up (hf_up (hf_up φ 23 ((v2).toNat) ((φ 23 ((v2).toNat)) + 1)) 24 ((v2).toNat) ((φ 24 ((v2).toNat)) + 1)) 17 4 ((φ 17 4) + 1)) 17 3 (hb_and (hb_or (φ 17 3) (hb_shl 1 (φ 16 ((((φ 17 1) * 8) + z2).toNat)))) (hb_xor (φ 15 ((φ 16 ((((φ 17 1) * 8) + z2).toNat)).toNat)) (-1 : Int)))) 25 ((φ 16 ((((φ 17 1) * 8) + z2).toNat)).toNat) ((φ 25 ((φ 16 ((((φ 17 1) * 8) + z2).toNat)).toNat)) + 1)) := iv_upIn i39 (by decide) (by decide +kernel)
        have r40 : Fr [23, 24, 25, 18001, 18002, 18003, 18004] φ (hf_up (hf_up (hf_up (hf_up (hf_up φ 23 ((v2).toNat) ((φ 23 ((v2).toNat)) + 1)) 24 ((v2).toNat) ((φ 24 ((v2).toNat)) + 1)) 17 4 ((φ 17 4) + 1)) 17 3 (hb_and (hb_or (φ 17 3) (hb_shl 1 (φ 16 ((((φ 17 1) * 8) + z2).toNat)))) (hb_xor (φ 15 ((φ 16 ((((φ 17 1) * 8) + z2).toNat)).toNat)) (-1 : Int)))) 25 ((φ 16 ((((φ 17 1) * 8) + z2).toNat)).toNat) ((φ 25 ((φ 16 ((((φ 17 1) * 8) + z2).toNat)).toNat)) + 1)) := fr_upa r39 (by decide)
        have i41 : Inv (hf_up (hf_up (hf_up (hf_up (hf_up (hf_up φ 23 ((v2).toNat) ((φ 23 ((v2).toNat)) + 1)) 24 ((v2).toNat) ((φ 24 ((v2).toNat)) + 1)) 17 4 ((φ 17 4) + 1)) 17 3 (hb_and (hb_or (φ 17 3) (hb_shl 1 (φ 16 ((((φ 17 1) * 8) + z2).toNat)))) (hb_xor (φ 15 ((φ 16 ((((φ 17 1) * 8) + z2).toNat)).toNat)) (-1 : Int)))) 25 ((φ 16 ((((φ 17 1) * 8) + z2).toNat)).toNat) ((φ 25 ((φ 16 ((((φ 17 1) * 8) + z2).toNat)).toNat)) + 1)) 17 1 z2) := iv_up (lo := (-1 : Int)) (u := 7) i40 (by decide +kernel) (by omega) (by omega)
        have r41 : Fr [23, 24, 25, 18001, 18002, 18003, 18004] φ (hf_up (hf_up (hf_up (hf_up (hf_up (hf_up φ 23 ((v2).toNat) ((φ 23 ((v2).toNat)) + 1)) 24 ((v2).toNat) ((φ 24 ((v2).toNat)) + 1)) 17 4 ((φ 17 4) + 1)) 17 3 (hb_and (hb_or (φ 17 3) (hb_shl 1 (φ 16 ((((φ 17 1) * 8) + z2).toNat)))) (hb_xor (φ 15 ((φ 16 ((((φ 17 1) * 8) + z2).toNat)).toNat)) (-1 : Int)))) 25 ((φ 16 ((((φ 17 1) * 8) + z2).toNat)).toNat) ((φ 25 ((φ 16 ((((φ 17 1) * 8) + z2).toNat)).toNat)) + 1)) 17 1 z2) := fr_up r40 (by decide)
        have i42 : Inv (hf_up (hf_up (hf_up (hf_up (hf_up (hf_up (hf_up φ 23 ((v2).toNat) ((φ 23 ((v2).toNat)) + 1)) 24 ((v2).toNat) ((φ 24 ((v2).toNat)) + 1)) 17 4 ((φ 17 4) + 1)) 17 3 (hb_and (hb_or (φ 17 3) (hb_shl 1 (φ 16 ((((φ 17 1) * 8) + z2).toNat)))) (hb_xor (φ 15 ((φ 16 ((((φ 17 1) * 8) + z2).toNat)).toNat)) (-1 : Int)))) 25 ((φ 16 ((((φ 17 1) * 8) + z2).toNat)).toNat) ((φ 25 ((φ 16 ((((φ 17 1) * 8) + z2).toNat)).toNat)) + 1)) 17 1 z2) 17 2 v2) := iv_up (lo := (-1 : Int)) (u := 5) i41 (by decide +kernel) (by omega) (by omega)
        have r42 : Fr [23, 24, 25, 18001, 18002, 18003, 18004] φ (hf_up (hf_up (hf_up (hf_up (hf_up (hf_up (hf_up φ 23 ((v2).toNat) ((φ 23 ((v2).toNat)) + 1)) 24 ((v2).toNat) ((φ 24 ((v2).toNat)) + 1)) 17 4 ((φ 17 4) + 1)) 17 3 (hb_and (hb_or (φ 17 3) (hb_shl 1 (φ 16 ((((φ 17 1) * 8) + z2).toNat)))) (hb_xor (φ 15 ((φ 16 ((((φ 17 1) * 8) + z2).toNat)).toNat)) (-1 : Int)))) 25 ((φ 16 ((((φ 17 1) * 8) + z2).toNat)).toNat) ((φ 25 ((φ 16 ((((φ 17 1) * 8) + z2).toNat)).toNat)) + 1)) 17 1 z2) 17 2 v2) := fr_up r41 (by decide)
        exact hQ (hf_up (hf_up (hf_up (hf_up (hf_up (hf_up (hf_up φ 23 ((v2).toNat) ((φ 23 ((v2).toNat)) + 1)) 24 ((v2).toNat) ((φ 24 ((v2).toNat)) + 1)) 17 4 ((φ 17 4) + 1)) 17 3 (hb_and (hb_or (φ 17 3) (hb_shl 1 (φ 16 ((((φ 17 1) * 8) + z2).toNat)))) (hb_xor (φ 15 ((φ 16 ((((φ 17 1) * 8) + z2).toNat)).toNat)) (-1 : Int)))) 25 ((φ 16 ((((φ 17 1) * 8) + z2).toNat)).toNat) ((φ 25 ((φ 16 ((((φ 17 1) * 8) + z2).toNat)).toNat)) + 1)) 17 1 z2) 17 2 v2) i42 r42 e24b
    · skip
      have e22b := e5b.trans (if_neg q22)
      have i43 : Inv (hf_up (hf_up (hf_up (hf_up φ 23 ((v2).toNat) ((φ 23 ((v2).toNat)) + 1)) 24 ((v2).toNat) ((φ 24 ((v2).toNat)) + 1)) 17 4 ((φ 17 4) + 1)) 17 1 z2) := iv_up (lo := (-1 : Int)) (u := 7) i26 (by decide +kernel) (by omega) (by omega)
      have r43 : Fr [23, 24, 25, 18001, 18002, 18003, 18004] φ (hf_up (hf_up (hf_up (hf_up φ 23 ((v2).toNat) ((φ 23 ((v2).toNat)) + 1)) 24 ((v2).toNat) ((φ 24 ((v2).toNat)) + 1)) 17 4 ((φ 17 4) + 1)) 17 1 z2) := fr_up r26 (by decide)
      have i44 : Inv (hf_up (hf_up (hf_up (hf_up (hf_up φ 23 ((v2).toNat) ((φ 23 ((v2).toNat)) + 1)) 24 ((v2).toNat) ((φ 24 ((v2).toNat)) + 1)) 17 4 ((φ 17 4) + 1)) 17 1 z2) 17 2 v2) := iv_up (lo := (-1 : Int)) (u := 5) i43 (by decide +kernel) (by omega) (by omega)
      have r44 : Fr [23, 24, 25, 18001, 18002, 18003, 18004] φ (hf_up (hf_up (hf_up (hf_up (hf_up φ 23 ((v2).toNat) ((φ 23 ((v2).toNat)) + 1)) 24 ((v2).toNat) ((φ 24 ((v2).toNat)) + 1)) 17 4 ((φ 17 4) + 1)) 17 1 z2) 17 2 v2) := fr_up r43 (by decide)
      exact hQ (hf_up (hf_up (hf_up (hf_up (hf_up φ 23 ((v2).toNat) ((φ 23 ((v2).toNat)) + 1)) 24 ((v2).toNat) ((φ 24 ((v2).toNat)) + 1)) 17 4 ((φ 17 4) + 1)) 17 1 z2) 17 2 v2) i44 r44 e22b
theorem sf_92_5_v {sc : List Int} {d : Nat} {φ : hf_F} {x : Nat} {Q : Option jm_V → hf_F → Nat → Prop} {v1 v2 : Int}
    (H : 0 ≤ v1 ∧ v1 < 8 ∧ (0 ≤ v1 ∧ v1 < 8 ∧ (hi (φ 12 ((v1).toNat)) ∧ ((jm_n (v2 + (φ 11 ((v1).toNat)))) < (φ 12 ((v1).toNat)) → Q (some (0, v2 + (φ 11 ((v1).toNat)))) φ x) ∧ (¬ (jm_n (v2 + (φ 11 ((v1).toNat)))) < (φ 12 ((v1).toNat)) → 0 ≤ v1 ∧ v1 < 8 ∧ (Q (some (0, (v2 + (φ 11 ((v1).toNat))) - (φ 12 ((v1).toNat)))) φ x))))) :
    hw sc d 92 0 [(0, (2, 5)), (1, (0, v1)), (2, (0, v2))] [] φ x Q := by
  refine hw_ld (b := 2) (e := 0) (by decide +kernel) rfl ?_
  refine hw_ald (b := 0) (e := 0) (by decide +kernel) rfl (by decide) ?_
  refine hr_gr (w := 11) (b := 3) (e := 5) 5 rfl (by decide +kernel) ?_
  refine hw_ld (b := 1) (e := 0) (by decide +kernel) rfl ?_
  obtain ⟨hl1, hu1, H⟩ := H
  refine hr_al (b := 0) (a0 := 0) (e := 0) (n := 8) (w := φ 11 ((v1).toNat)) 11 rfl (by decide +kernel) (by decide) hl1 hu1 rfl ?_
  refine hw_bin (w := v2 + (φ 11 ((v1).toNat))) (a0 := 0) (b := 0) (e := 0) (by decide +kernel) rfl ?_
  refine hw_st (L' := (jm_st1 [(0, (2, 5)), (1, (0, v1)), (2, (0, v2))] 3 (0, v2 + (φ 11 ((v1).toNat))))) (b := 3) (e := 0) (by decide +kernel) rfl ?_
  refine hw_ld (b := 3) (e := 0) (by decide +kernel) get_st1e ?_
  refine hw_ald (b := 0) (e := 0) (by decide +kernel) (get_st1 rfl (by decide) (fun q => absurd q.1 (by decide))) (by decide) ?_
  refine hr_gr (w := 12) (b := 3) (e := 6) 5 rfl (by decide +kernel) ?_
  refine hw_ld (b := 1) (e := 0) (by decide +kernel) (get_st1 rfl (by decide) (fun q => absurd q.1 (by decide))) ?_
  obtain ⟨hl2, hu2, H⟩ := H
  refine hr_al (b := 0) (a0 := 0) (e := 0) (n := 8) (w := φ 12 ((v1).toNat)) 12 rfl (by decide +kernel) (by decide) hl2 hu2 rfl ?_
  obtain ⟨hz3, ht3, hf3⟩ := H
  refine hw_if2l (a0 := 0) (b := 2) (e := 30) (by decide +kernel) hz3 (fun q => ?_) (fun q => ?_)
  · have H := ht3 q
    refine hw_ld (b := 3) (e := 0) (by decide +kernel) get_st1e ?_
    exact hw_ret (a0 := 0) (e := 0) (by decide +kernel) (Or.inl rfl) H
  · have H := hf3 q
    refine hw_ld (b := 3) (e := 0) (by decide +kernel) get_st1e ?_
    refine hw_ald (b := 0) (e := 0) (by decide +kernel) (get_st1 rfl (by decide) (fun q => absurd q.1 (by decide))) (by decide) ?_
    refine hr_gr (w := 12) (b := 3) (e := 6) 5 rfl (by decide +kernel) ?_
    refine hw_ld (b := 1) (e := 0) (by decide +kernel) (get_st1 rfl (by decide) (fun q => absurd q.1 (by decide))) ?_
    obtain ⟨hl5, hu5, H⟩ := H
    refine hr_al (b := 0) (a0 := 0) (e := 0) (n := 8) (w := φ 12 ((v1).toNat)) 12 rfl (by decide +kernel) (by decide) hl5 hu5 rfl ?_
    refine hw_bin (w := (v2 + (φ 11 ((v1).toNat))) - (φ 12 ((v1).toNat))) (a0 := 0) (b := 1) (e := 0) (by decide +kernel) rfl ?_
    refine hw_goto (a0 := 0) (b := 0) (e := 31) (by decide +kernel) ?_
    exact hw_ret (a0 := 0) (e := 0) (by decide +kernel) (Or.inl rfl) H
theorem sf_92_5 {sc : List Int} {d : Nat} {φ : hf_F} {x : Nat} {Q : Option jm_V → hf_F → Nat → Prop} {v1 v2 : Int} (hI : Inv φ) (h1a : 0 ≤ v1) (h1b : v1 ≤ 7) (hQ : ∀ (r : Int), True → F_Plan_stepOn_5 φ v1 v2 = r → Q (some (0, r)) φ x) : hw sc d 92 0 [(0, (2, 5)), (1, (0, v1)), (2, (0, v2))] [] φ x Q := by
  apply sf_92_5_v
  have e0 : F_Plan_stepOn_5 φ v1 v2 = _ := rfl
  refine ⟨by omega, by omega, ?_⟩
  have f1 := iv_ar (a := 11) (s := 0) (t := 8) (lo := 0) (u := 29) (z := v1) hI (by decide +kernel) (by omega) (by omega)
  refine ⟨by omega, by omega, ?_⟩
  have f2 := iv_ar (a := 12) (s := 0) (t := 8) (lo := 0) (u := 30) (z := v1) hI (by decide +kernel) (by omega) (by omega)
  have f3 := hr_n (v2 + (φ 11 ((v1).toNat)))
  refine ⟨by unfold hi; omega, fun q3 => ?_, fun q3 => ?_⟩
  · skip
    have e3a := e0.trans (if_pos q3)
    exact hQ (v2 + (φ 11 ((v1).toNat))) trivial e3a
  · skip
    have e3b := e0.trans (if_neg q3)
    refine ⟨by omega, by omega, ?_⟩
    exact hQ ((v2 + (φ 11 ((v1).toNat))) - (φ 12 ((v1).toNat))) trivial e3b
