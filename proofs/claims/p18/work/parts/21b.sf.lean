theorem sf_169_192_v3 {sc : List Int} {d : Nat} {φ : hf_F} {x : Nat} {Q : Option jm_V → hf_F → Nat → Prop} {L : jm_L} {l1 l2 : Int} (g0 : jm_get L 0 = some (2, 192)) (g1 : jm_get L 1 = some (0, l1)) (g2 : jm_get L 2 = some (0, l2))
    (H : hi l2 ∧ (l2 < 0 → Q none φ x) ∧ (¬ l2 < 0 → 0 ≤ (φ 192 2) ∧ (φ 192 2) < 940 ∧ (hw sc d 169 3 (jm_st1 L 2 (0, l2 + (-8 : Int))) [] (hf_up (hf_up φ 193 ((φ 192 2).toNat) (jm_b (hb_i2b (hb_shr l1 l2)))) 192 2 ((φ 192 2) + 1)) x Q))) :
    hw sc d 169 3 L [] φ x Q := by
  refine hw_ld (b := 2) (e := 0) (by decide +kernel) g2 ?_
  obtain ⟨hz1, ht1, hf1⟩ := H
  refine hw_if (a0 := 0) (b := 2) (e := 36) (by decide +kernel) hz1 (fun q => ?_) (fun q => ?_)
  · have H := ht1 q
    exact hw_vret (a0 := 0) (e := 0) (by decide +kernel) H
  · have H := hf1 q
    refine hw_ald (b := 0) (e := 0) (by decide +kernel) g0 (by decide) ?_
    refine hr_gr (w := 193) (b := 12) (e := 1) 192 rfl (by decide +kernel) ?_
    refine hw_ald (b := 0) (e := 0) (by decide +kernel) g0 (by decide) ?_
    refine hr_gi (w := φ 192 2) (b := 12) (e := 2) 192 rfl (by decide +kernel) rfl ?_
    refine hw_ld (b := 1) (e := 0) (by decide +kernel) g1 ?_
    refine hw_ld (b := 2) (e := 0) (by decide +kernel) g2 ?_
    refine hw_bin (w := hb_shr l1 l2) (a0 := 0) (b := 7) (e := 0) (by decide +kernel) rfl ?_
    refine hw_conv (t' := 0) (w := hb_i2b (hb_shr l1 l2)) (a0 := 0) (b := 2) (e := 0) (by decide +kernel) rfl ?_
    obtain ⟨hl3, hu3, H⟩ := H
    refine hr_asb (a0 := 0) (e := 4) (n := 940) 193 rfl (by decide +kernel) hl3 hu3 ?_
    refine hw_ald (b := 0) (e := 0) (by decide +kernel) g0 (by decide) ?_
    refine hw_dup (a0 := 0) (e := 0) (by decide +kernel) (by decide) ?_
    refine hr_gi (w := φ 192 2) (b := 12) (e := 2) 192 rfl (by decide +kernel) (hf_up_ne (fun q => absurd q.1 (by decide))) ?_
    refine hw_k (c := 1) (b := 0) (e := 1) (by decide +kernel) ?_
    refine hw_bin (w := (φ 192 2) + 1) (a0 := 0) (b := 0) (e := 0) (by decide +kernel) rfl ?_
    refine hr_pi (b := 12) (e := 2) 192 rfl (by decide +kernel) ?_
    refine hw_inc (L' := (jm_st1 L 2 (0, l2 + (-8 : Int)))) (c := (-8 : Int)) (b := 2) (e := 0) (by decide +kernel) g2 rfl ?_
    refine hw_goto (a0 := 0) (b := 0) (e := 3) (by decide +kernel) ?_
    exact H
theorem sf_169_192_l3 {sc : List Int} {d x : Nat} {Q : Option jm_V → hf_F → Nat → Prop} : ∀ (n : Nat) (φ : hf_F) (L : jm_L) (l1 l2 : Int), jm_get L 0 = some (2, 192) → jm_get L 1 = some (0, l1) → jm_get L 2 = some (0, l2) → Inv φ → l2 + 8 < (n : Int) → (-8 : Int) ≤ l2 → l2 ≤ 24 → φ 192 2 + (l2 + 8) / 8 ≤ 940 → (∀ ψ : hf_F, Inv ψ → Fr [193, 193002] φ ψ → (ψ 192 2 = φ 192 2 + (l2 + 8) / 8) → F_RideLawsModel_four_192_l3 n φ l1 l2 = ψ → Q none ψ x) → hw sc d 169 3 L [] φ x Q := by
  intro n
  induction n with
  | zero =>
    intro φ L l1 l2 g0 g1 g2 hI hM b2a b2b c0 hQ
    exfalso
    omega
  | succ n ih =>
    intro φ L l1 l2 g0 g1 g2 hI hM b2a b2b c0 hQ
    refine sf_169_192_v3 g0 g1 g2 ?_
    have e0 := F_RideLawsModel_four_192_l3_s (φ := φ) (l1 := l1) (l2 := l2) n
    refine ⟨by unfold hi; omega, fun q1 => ?_, fun q1 => ?_⟩
    · skip
      have e1a := e0.trans (if_pos q1)
      have f1 := iv_at (a := 192) (k := 2) (lo := 0) (u := 940) hI (by decide +kernel)
      exact hQ φ hI (fr_rf) (by omega) e1a
    · skip
      have e1b := e0.trans (if_neg q1)
      have f2 := iv_at (a := 192) (k := 2) (lo := 0) (u := 940) hI (by decide +kernel)
      have f3 := hr_shr0 l1 l2
      have f4 := hr_shr l1 l2
      have f5 := hr_i2b (hb_shr l1 l2)
      refine ⟨by omega, by omega, ?_⟩
      have f6 := hr_jmb (hb_i2b (hb_shr l1 l2))
      have i7 : Inv (hf_up φ 193 ((φ 192 2).toNat) (jm_b (hb_i2b (hb_shr l1 l2)))) := iv_upI (s := 0) (t := 940) (lo := (-128 : Int)) (u := 127) (z := φ 192 2) hI (by decide +kernel) (by omega) (by omega) (by omega) (by omega)
      have r7 : Fr [193, 193002] φ (hf_up φ 193 ((φ 192 2).toNat) (jm_b (hb_i2b (hb_shr l1 l2)))) := fr_upa (fr_rf) (by decide)
      have i8 : Inv (hf_up (hf_up φ 193 ((φ 192 2).toNat) (jm_b (hb_i2b (hb_shr l1 l2)))) 192 2 ((φ 192 2) + 1)) := iv_up (lo := 0) (u := 940) i7 (by decide +kernel) (by omega) (by omega)
      have r8 : Fr [193, 193002] φ (hf_up (hf_up φ 193 ((φ 192 2).toNat) (jm_b (hb_i2b (hb_shr l1 l2)))) 192 2 ((φ 192 2) + 1)) := fr_up r7 (by decide)
      have f9 : (hf_up (hf_up φ 193 ((φ 192 2).toNat) (jm_b (hb_i2b (hb_shr l1 l2)))) 192 2 ((φ 192 2) + 1)) 192 2 = (φ 192 2) + 1 := hf_up_eq
      exact ih (hf_up (hf_up φ 193 ((φ 192 2).toNat) (jm_b (hb_i2b (hb_shr l1 l2)))) 192 2 ((φ 192 2) + 1)) (jm_st1 L 2 (0, l2 + (-8 : Int))) l1 (l2 + (-8 : Int)) (get_st1 g0 (by decide) (fun q => absurd q.1 (by decide))) (get_st1 g1 (by decide) (fun q => tg0 q.2)) get_st1e i8 (by omega) (by omega) (by omega) (by omega) (fun χ hIχ hFχ hVχ hEχ => hQ χ hIχ (fr_tr r8 hFχ (by decide)) (by omega) (e1b.trans hEχ))
theorem sf_169_192_v {sc : List Int} {d : Nat} {φ : hf_F} {x : Nat} {Q : Option jm_V → hf_F → Nat → Prop} {v1 : Int}
    (H : hw sc d 169 3 (jm_st1 [(0, (2, 192)), (1, (0, v1))] 2 (0, 24)) [] φ x Q) :
    hw sc d 169 0 [(0, (2, 192)), (1, (0, v1))] [] φ x Q := by
  refine hw_k (c := 24) (b := 1) (e := 2) (by decide +kernel) ?_
  refine hw_st (L' := (jm_st1 [(0, (2, 192)), (1, (0, v1))] 2 (0, 24))) (b := 2) (e := 0) (by decide +kernel) rfl ?_
  exact H
theorem sf_169_192 {sc : List Int} {d : Nat} {φ : hf_F} {x : Nat} {Q : Option jm_V → hf_F → Nat → Prop} {v1 : Int} (hI : Inv φ) (h1a : (-2147483648 : Int) ≤ v1) (h1b : v1 ≤ 2147483647) (hp0 : φ 192 2 ≤ 936) (hQ : ∀ ψ : hf_F, Inv ψ → Fr [193, 193002] φ ψ → (ψ 192 2 = φ 192 2 + 4) → F_RideLawsModel_four_192 φ v1 = ψ → Q none ψ x) : hw sc d 169 0 [(0, (2, 192)), (1, (0, v1))] [] φ x Q := by
  apply sf_169_192_v
  have e0 : F_RideLawsModel_four_192 φ v1 = _ := rfl
  have f1 := iv_at (a := 192) (k := 2) (lo := 0) (u := 940) hI (by decide +kernel)
  exact sf_169_192_l3 ((24 + 8 : Int).toNat + 1) φ (jm_st1 [(0, (2, 192)), (1, (0, v1))] 2 (0, 24)) v1 24 (get_st1 rfl (by decide) (fun q => absurd q.1 (by decide))) (get_st1 rfl (by decide) (fun q => tg0 q.2)) get_st1e hI (by omega) (by omega) (by omega) (by omega) (fun χ hIχ hFχ hVχ hEχ => hQ χ hIχ (fr_tr (fr_rf) hFχ (by decide)) (by omega) (e0.trans hEχ))
theorem sf_168_192_v {sc : List Int} {d : Nat} {φ : hf_F} {x : Nat} {Q : Option jm_V → hf_F → Nat → Prop} {v1 v2 v3 v4 v5 : Int}
    (H : hi ((φ 192 2) + 20) ∧ hi 940 ∧ (((φ 192 2) + 20) ≤ 940 → hw sc d 169 0 [(0, (2, 192)), (1, (0, v1))] [] (hf_up φ 192 0 0) x (fun r ψ2 y2 => y2 = x ∧ (r = none ∧ (hw sc d 169 0 [(0, (2, 192)), (1, (0, v2))] [] ψ2 x (fun r ψ3 y3 => y3 = x ∧ (r = none ∧ (hw sc d 169 0 [(0, (2, 192)), (1, (0, v3))] [] ψ3 x (fun r ψ4 y4 => y4 = x ∧ (r = none ∧ (hw sc d 169 0 [(0, (2, 192)), (1, (0, v4))] [] ψ4 x (fun r ψ5 y5 => y5 = x ∧ (r = none ∧ (hw sc d 169 0 [(0, (2, 192)), (1, (0, v5))] [] ψ5 x (fun r ψ6 y6 => y6 = x ∧ (r = none ∧ (Q (some (0, ψ6 192 2)) ψ6 x)))))))))))))))) ∧ (¬ ((φ 192 2) + 20) ≤ 940 → Q (some (0, (-1 : Int))) (hf_up φ 192 0 0) x)) :
    hw sc (d + 1) 168 0 [(0, (2, 192)), (1, (0, v1)), (2, (0, v2)), (3, (0, v3)), (4, (0, v4)), (5, (0, v5))] [] φ x Q := by
  refine hw_ald (b := 0) (e := 0) (by decide +kernel) rfl (by decide) ?_
  refine hw_k (c := 0) (b := 0) (e := 1) (by decide +kernel) ?_
  refine hr_pi (b := 12) (e := 0) 192 rfl (by decide +kernel) ?_
  refine hw_ald (b := 0) (e := 0) (by decide +kernel) rfl (by decide) ?_
  refine hr_gi (w := φ 192 2) (b := 12) (e := 2) 192 rfl (by decide +kernel) (hf_up_ne (fun q => absurd q.2 (by decide))) ?_
  refine hw_k (c := 20) (b := 1) (e := 2) (by decide +kernel) ?_
  refine hw_bin (w := (φ 192 2) + 20) (a0 := 0) (b := 0) (e := 0) (by decide +kernel) rfl ?_
  refine hw_k (c := 940) (b := 2) (e := 3) (by decide +kernel) ?_
  obtain ⟨hz1, hy1, ht1, hf1⟩ := H
  refine hw_if2 (a0 := 0) (b := 5) (e := 20) (by decide +kernel) hz1 hy1 (fun q => ?_) (fun q => ?_)
  · have H := ht1 q
    refine hw_ald (b := 0) (e := 0) (by decide +kernel) rfl (by decide) ?_
    refine hw_ld (b := 1) (e := 0) (by decide +kernel) rfl ?_
    refine hr_call (a0 := 22) (b := 169) (e := 2) (nl := 3) (As := [(0, v1)]) (R := []) 192 rfl (by decide +kernel) rfl rfl (Nat.le_of_ble_eq_true rfl) (Nat.le_of_ble_eq_true rfl) ?_
    refine hw_mono H ?_
    rintro r ψ2 y2 ⟨hyx, hr, H⟩
    subst hyx
    subst hr
    refine ⟨hnen, ?_⟩
    show hw sc (d + 1) 168 25 [(0, (2, 192)), (1, (0, v1)), (2, (0, v2)), (3, (0, v3)), (4, (0, v4)), (5, (0, v5))] [] ψ2 y2 Q
    refine hw_ald (b := 0) (e := 0) (by decide +kernel) rfl (by decide) ?_
    refine hw_ld (b := 2) (e := 0) (by decide +kernel) rfl ?_
    refine hr_call (a0 := 22) (b := 169) (e := 2) (nl := 3) (As := [(0, v2)]) (R := []) 192 rfl (by decide +kernel) rfl rfl (Nat.le_of_ble_eq_true rfl) (Nat.le_of_ble_eq_true rfl) ?_
    refine hw_mono H ?_
    rintro r ψ3 y3 ⟨hyx, hr, H⟩
    subst hyx
    subst hr
    refine ⟨hnen, ?_⟩
    show hw sc (d + 1) 168 30 [(0, (2, 192)), (1, (0, v1)), (2, (0, v2)), (3, (0, v3)), (4, (0, v4)), (5, (0, v5))] [] ψ3 y3 Q
    refine hw_ald (b := 0) (e := 0) (by decide +kernel) rfl (by decide) ?_
    refine hw_ld (b := 3) (e := 0) (by decide +kernel) rfl ?_
    refine hr_call (a0 := 22) (b := 169) (e := 2) (nl := 3) (As := [(0, v3)]) (R := []) 192 rfl (by decide +kernel) rfl rfl (Nat.le_of_ble_eq_true rfl) (Nat.le_of_ble_eq_true rfl) ?_
    refine hw_mono H ?_
    rintro r ψ4 y4 ⟨hyx, hr, H⟩
    subst hyx
    subst hr
    refine ⟨hnen, ?_⟩
    show hw sc (d + 1) 168 35 [(0, (2, 192)), (1, (0, v1)), (2, (0, v2)), (3, (0, v3)), (4, (0, v4)), (5, (0, v5))] [] ψ4 y4 Q
    refine hw_ald (b := 0) (e := 0) (by decide +kernel) rfl (by decide) ?_
    refine hw_ld (b := 4) (e := 1) (by decide +kernel) rfl ?_
    refine hr_call (a0 := 22) (b := 169) (e := 2) (nl := 3) (As := [(0, v4)]) (R := []) 192 rfl (by decide +kernel) rfl rfl (Nat.le_of_ble_eq_true rfl) (Nat.le_of_ble_eq_true rfl) ?_
    refine hw_mono H ?_
    rintro r ψ5 y5 ⟨hyx, hr, H⟩
    subst hyx
    subst hr
    refine ⟨hnen, ?_⟩
    show hw sc (d + 1) 168 41 [(0, (2, 192)), (1, (0, v1)), (2, (0, v2)), (3, (0, v3)), (4, (0, v4)), (5, (0, v5))] [] ψ5 y5 Q
    refine hw_ald (b := 0) (e := 0) (by decide +kernel) rfl (by decide) ?_
    refine hw_ld (b := 5) (e := 1) (by decide +kernel) rfl ?_
    refine hr_call (a0 := 22) (b := 169) (e := 2) (nl := 3) (As := [(0, v5)]) (R := []) 192 rfl (by decide +kernel) rfl rfl (Nat.le_of_ble_eq_true rfl) (Nat.le_of_ble_eq_true rfl) ?_
    refine hw_mono H ?_
    rintro r ψ6 y6 ⟨hyx, hr, H⟩
    subst hyx
    subst hr
    refine ⟨hnen, ?_⟩
    show hw sc (d + 1) 168 47 [(0, (2, 192)), (1, (0, v1)), (2, (0, v2)), (3, (0, v3)), (4, (0, v4)), (5, (0, v5))] [] ψ6 y6 Q
    refine hw_ald (b := 0) (e := 0) (by decide +kernel) rfl (by decide) ?_
    refine hr_gi (w := ψ6 192 2) (b := 12) (e := 2) 192 rfl (by decide +kernel) rfl ?_
    exact hw_ret (a0 := 0) (e := 0) (by decide +kernel) (Or.inl rfl) H
  · have H := hf1 q
    refine hw_k (c := (-1 : Int)) (b := 0) (e := 1) (by decide +kernel) ?_
    exact hw_ret (a0 := 0) (e := 0) (by decide +kernel) (Or.inl rfl) H
theorem sf_168_192 {sc : List Int} {d : Nat} {φ : hf_F} {x : Nat} {Q : Option jm_V → hf_F → Nat → Prop} {v1 v2 v3 v4 v5 : Int} (hI : Inv φ) (h1a : (-2147483648 : Int) ≤ v1) (h1b : v1 ≤ 2147483647) (h2a : (-2147483648 : Int) ≤ v2) (h2b : v2 ≤ 2147483647) (h3a : (-2147483648 : Int) ≤ v3) (h3b : v3 ≤ 2147483647) (h4a : (-2147483648 : Int) ≤ v4) (h4b : v4 ≤ 2147483647) (h5a : (-2147483648 : Int) ≤ v5) (h5b : v5 ≤ 2147483647) (hQ : ∀ (r : Int) (ψ : hf_F), Inv ψ → Fr [193, 193000, 193002] φ ψ → True ∧ ((r = -1 ∧ 921 ≤ φ 192 2 ∧ ψ 192 2 = φ 192 2) ∨ (φ 192 2 ≤ 920 ∧ ψ 192 2 = φ 192 2 + 20 ∧ r = φ 192 2 + 20)) → F_RideLawsModel_feed_192 φ v1 v2 v3 v4 v5 = (r, ψ) → Q (some (0, r)) ψ x) : hw sc (d + 1) 168 0 [(0, (2, 192)), (1, (0, v1)), (2, (0, v2)), (3, (0, v3)), (4, (0, v4)), (5, (0, v5))] [] φ x Q := by
  apply sf_168_192_v
  have e0 : F_RideLawsModel_feed_192 φ v1 v2 v3 v4 v5 = _ := rfl
  have i1 : Inv (hf_up φ 192 0 0) := iv_up (lo := 0) (u := 1) hI (by decide +kernel) (by omega) (by omega)
  have r1 : Fr [193, 193000, 193002] φ (hf_up φ 192 0 0) := fr_up (fr_rf) (by decide)
  have f2 := iv_at (a := 192) (k := 2) (lo := 0) (u := 940) hI (by decide +kernel)
  refine ⟨by unfold hi; omega, by unfold hi; omega, fun q1 => ?_, fun q1 => ?_⟩
  · skip
    have e1a := e0.trans (if_pos q1)
    have f3 : (hf_up φ 192 0 0) 192 2 = φ 192 2 := (hf_up_ne (fun q => absurd q.2 (by decide)))
    refine sf_169_192 (φ := (hf_up φ 192 0 0)) i1 (by omega) (by omega) (by omega) (fun ψ2 hI2 hF2 hV2 hE2 => ⟨rfl, rfl, ?_⟩)
    have hG2 : Fr [193, 193000, 193002] φ ψ2 := fr_tr r1 hF2 (by decide)
    have f4 := iv_at (a := 192) (k := 2) (lo := 0) (u := 940) hI2 (by decide +kernel)
    have e2 := e1a.trans (bnv_e hE2)
    refine sf_169_192 (φ := ψ2) hI2 (by omega) (by omega) (by omega) (fun ψ3 hI3 hF3 hV3 hE3 => ⟨rfl, rfl, ?_⟩)
    have hG3 : Fr [193, 193000, 193002] φ ψ3 := fr_tr hG2 hF3 (by decide)
    have f5 := iv_at (a := 192) (k := 2) (lo := 0) (u := 940) hI3 (by decide +kernel)
    have e3 := e2.trans (bnv_e hE3)
    refine sf_169_192 (φ := ψ3) hI3 (by omega) (by omega) (by omega) (fun ψ4 hI4 hF4 hV4 hE4 => ⟨rfl, rfl, ?_⟩)
    have hG4 : Fr [193, 193000, 193002] φ ψ4 := fr_tr hG3 hF4 (by decide)
    have f6 := iv_at (a := 192) (k := 2) (lo := 0) (u := 940) hI4 (by decide +kernel)
    have e4 := e3.trans (bnv_e hE4)
    refine sf_169_192 (φ := ψ4) hI4 (by omega) (by omega) (by omega) (fun ψ5 hI5 hF5 hV5 hE5 => ⟨rfl, rfl, ?_⟩)
    have hG5 : Fr [193, 193000, 193002] φ ψ5 := fr_tr hG4 hF5 (by decide)
    have f7 := iv_at (a := 192) (k := 2) (lo := 0) (u := 940) hI5 (by decide +kernel)
    have e5 := e4.trans (bnv_e hE5)
    refine sf_169_192 (φ := ψ5) hI5 (by omega) (by omega) (by omega) (fun ψ6 hI6 hF6 hV6 hE6 => ⟨rfl, rfl, ?_⟩)
    have hG6 : Fr [193, 193000, 193002] φ ψ6 := fr_tr hG5 hF6 (by decide)
    have f8 := iv_at (a := 192) (k := 2) (lo := 0) (u := 940) hI6 (by decide +kernel)
    have e6 := e5.trans (bnv_e hE6)
    exact hQ (ψ6 192 2) ψ6 hI6 hG6 ⟨trivial, by omega⟩ e6
  · skip
    have e1b := e0.trans (if_neg q1)
    have f9 : (hf_up φ 192 0 0) 192 2 = φ 192 2 := (hf_up_ne (fun q => absurd q.2 (by decide)))
    exact hQ (-1 : Int) (hf_up φ 192 0 0) i1 r1 ⟨trivial, by omega⟩ e1b
