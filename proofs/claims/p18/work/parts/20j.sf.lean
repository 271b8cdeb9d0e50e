theorem sf_250_192_v3 {sc : List Int} {d : Nat} {φ : hf_F} {x : Nat} {Q : Option jm_V → hf_F → Nat → Prop} {L : jm_L} {l1 l3 : Int} (g0 : jm_get L 0 = some (2, 192)) (g1 : jm_get L 1 = some (1, l1)) (g3 : jm_get L 3 = some (0, l3))
    (H : hi l3 ∧ (l3 < 0 → Q none φ x) ∧ (¬ l3 < 0 → hi (jm_cmp (hb_land (hb_lshr l1 l3) 255) 0) ∧ ((jm_cmp (hb_land (hb_lshr l1 l3) 255) 0) = 0 → hw sc (d + 1) 250 3 (jm_st1 L 3 (0, l3 + (-8 : Int))) [] φ x Q) ∧ (¬ (jm_cmp (hb_land (hb_lshr l1 l3) 255) 0) = 0 → hw sc d 251 0 [(0, (2, 192)), (1, (0, hb_l2i (hb_land (hb_lshr l1 l3) 255)))] [] φ x (fun r ψ4 y4 => y4 = x ∧ (r = none ∧ (hw sc (d + 1) 250 3 (jm_st1 L 3 (0, l3 + (-8 : Int))) [] ψ4 x Q)))))) :
    hw sc (d + 1) 250 3 L [] φ x Q := by
  refine hw_ld (b := 3) (e := 0) (by decide +kernel) g3 ?_
  obtain ⟨hz1, ht1, hf1⟩ := H
  refine hw_if (a0 := 0) (b := 2) (e := 37) (by decide +kernel) hz1 (fun q => ?_) (fun q => ?_)
  · have H := ht1 q
    exact hw_vret (a0 := 0) (e := 0) (by decide +kernel) H
  · have H := hf1 q
    refine hw_lld (b := 1) (e := 0) (by decide +kernel) g1 ?_
    refine hw_ld (b := 3) (e := 0) (by decide +kernel) g3 ?_
    refine hw_lsh (w := hb_lshr l1 l3) (a0 := 0) (b := 5) (e := 0) (by decide +kernel) rfl ?_
    refine hw_lk (c := 255) (b := 1) (e := 3) (by decide +kernel) ?_
    refine hw_lbin (w := hb_land (hb_lshr l1 l3) 255) (a0 := 0) (b := 2) (e := 0) (by decide +kernel) rfl ?_
    refine hw_lk (c := 0) (b := 0) (e := 1) (by decide +kernel) ?_
    refine hw_lcmp (w := jm_cmp (hb_land (hb_lshr l1 l3) 255) 0) (a0 := 0) (b := 0) (e := 0) (by decide +kernel) rfl ?_
    obtain ⟨hz3, ht3, hf3⟩ := H
    refine hw_if (a0 := 0) (b := 0) (e := 31) (by decide +kernel) hz3 (fun q => ?_) (fun q => ?_)
    · have H := ht3 q
      refine hw_inc (L' := (jm_st1 L 3 (0, l3 + (-8 : Int)))) (c := (-8 : Int)) (b := 3) (e := 0) (by decide +kernel) g3 rfl ?_
      refine hw_goto (a0 := 0) (b := 0) (e := 3) (by decide +kernel) ?_
      exact H
    · have H := hf3 q
      refine hw_ald (b := 0) (e := 0) (by decide +kernel) g0 (by decide) ?_
      refine hw_lld (b := 1) (e := 0) (by decide +kernel) g1 ?_
      refine hw_ld (b := 3) (e := 0) (by decide +kernel) g3 ?_
      refine hw_lsh (w := hb_lshr l1 l3) (a0 := 0) (b := 5) (e := 0) (by decide +kernel) rfl ?_
      refine hw_lk (c := 255) (b := 1) (e := 3) (by decide +kernel) ?_
      refine hw_lbin (w := hb_land (hb_lshr l1 l3) 255) (a0 := 0) (b := 2) (e := 0) (by decide +kernel) rfl ?_
      refine hw_conv (t' := 0) (w := hb_l2i (hb_land (hb_lshr l1 l3) 255)) (a0 := 0) (b := 1) (e := 0) (by decide +kernel) rfl ?_
      refine hr_call (a0 := 22) (b := 251) (e := 2) (nl := 2) (As := [(0, hb_l2i (hb_land (hb_lshr l1 l3) 255))]) (R := []) 192 rfl (by decide +kernel) rfl rfl (Nat.le_of_ble_eq_true rfl) (Nat.le_of_ble_eq_true rfl) ?_
      refine hw_mono H ?_
      rintro r ψ4 y4 ⟨hyx, hr, H⟩
      subst hyx
      subst hr
      refine ⟨hnen, ?_⟩
      show hw sc (d + 1) 250 31 L [] ψ4 y4 Q
      refine hw_inc (L' := (jm_st1 L 3 (0, l3 + (-8 : Int)))) (c := (-8 : Int)) (b := 3) (e := 0) (by decide +kernel) g3 rfl ?_
      refine hw_goto (a0 := 0) (b := 0) (e := 3) (by decide +kernel) ?_
      exact H
theorem sf_250_192_l3 {sc : List Int} {d x : Nat} {Q : Option jm_V → hf_F → Nat → Prop} : ∀ (n : Nat) (φ : hf_F) (L : jm_L) (l1 l3 : Int), jm_get L 0 = some (2, 192) → jm_get L 1 = some (1, l1) → jm_get L 3 = some (0, l3) → Inv φ → l3 + 8 < (n : Int) → (-8 : Int) ≤ l3 → l3 ≤ 56 → 8 * φ 192 28 + l3 + 8 ≤ 384 → (∀ ψ : hf_F, Inv ψ → Fr [201, 193028] φ ψ → 8 * ψ 192 28 ≤ 8 * φ 192 28 + l3 + 8 → F_RideLawsModel_spells_192_l3 n φ l1 l3 = ψ → Q none ψ x) → hw sc (d + 1) 250 3 L [] φ x Q := by
  intro n
  induction n with
  | zero =>
    intro φ L l1 l3 g0 g1 g3 hI hM b3a b3b c0 hQ
    exfalso
    omega
  | succ n ih =>
    intro φ L l1 l3 g0 g1 g3 hI hM b3a b3b c0 hQ
    refine sf_250_192_v3 g0 g1 g3 ?_
    have e0 := F_RideLawsModel_spells_192_l3_s (φ := φ) (l1 := l1) (l3 := l3) n
    refine ⟨by unfold hi; omega, fun q1 => ?_, fun q1 => ?_⟩
    · skip
      have e1a := e0.trans (if_pos q1)
      have f1 := iv_at (a := 192) (k := 28) (lo := 0) (u := 48) hI (by decide +kernel)
      exact hQ φ hI (fr_rf) (by omega) e1a
    · skip
      have e1b := e0.trans (if_neg q1)
      have f2 := hr_cmp (hb_land (hb_lshr l1 l3) 255) 0
      have f3 := hr_cmp0 (hb_land (hb_lshr l1 l3) 255)
      refine ⟨by unfold hi; omega, fun q3 => ?_, fun q3 => ?_⟩
      · skip
        have e3a := e1b.trans (if_pos q3)
        have f4 := iv_at (a := 192) (k := 28) (lo := 0) (u := 48) hI (by decide +kernel)
        exact ih φ (jm_st1 L 3 (0, l3 + (-8 : Int))) l1 (l3 + (-8 : Int)) (get_st1 g0 (by decide) (fun q => absurd q.1 (by decide))) (get_st1 g1 (by decide) (fun q => absurd q.1 (by decide))) get_st1e hI (by omega) (by omega) (by omega) (by omega) (fun χ hIχ hFχ hVχ hEχ => hQ χ hIχ (fr_tr (fr_rf) hFχ (by decide)) (by omega) (e3a.trans hEχ))
      · skip
        have e3b := e1b.trans (if_neg q3)
        have f5 := hr_l2i (hb_land (hb_lshr l1 l3) 255)
        have f6 := iv_at (a := 192) (k := 28) (lo := 0) (u := 48) hI (by decide +kernel)
        refine sf_251_192 (φ := φ) hI (by omega) (fun ψ4 hI4 hF4 hV4 hE4 => ⟨rfl, rfl, ?_⟩)
        have hG4 : Fr [201, 193028] φ ψ4 := fr_tr (fr_rf) hF4 (by decide)
        have f7 := iv_at (a := 192) (k := 28) (lo := 0) (u := 48) hI4 (by decide +kernel)
        have e4 := e3b.trans (bnv_e hE4)
        exact ih ψ4 (jm_st1 L 3 (0, l3 + (-8 : Int))) l1 (l3 + (-8 : Int)) (get_st1 g0 (by decide) (fun q => absurd q.1 (by decide))) (get_st1 g1 (by decide) (fun q => absurd q.1 (by decide))) get_st1e hI4 (by omega) (by omega) (by omega) (by omega) (fun χ hIχ hFχ hVχ hEχ => hQ χ hIχ (fr_tr hG4 hFχ (by decide)) (by omega) (e4.trans hEχ))
theorem sf_250_192_v {sc : List Int} {d : Nat} {φ : hf_F} {x : Nat} {Q : Option jm_V → hf_F → Nat → Prop} {v1 : Int}
    (H : hw sc (d + 1) 250 3 (jm_st1 [(0, (2, 192)), (1, (1, v1))] 3 (0, 56)) [] φ x Q) :
    hw sc (d + 1) 250 0 [(0, (2, 192)), (1, (1, v1))] [] φ x Q := by
  refine hw_k (c := 56) (b := 1) (e := 2) (by decide +kernel) ?_
  refine hw_st (L' := (jm_st1 [(0, (2, 192)), (1, (1, v1))] 3 (0, 56))) (b := 3) (e := 0) (by decide +kernel) rfl ?_
  exact H
theorem sf_250_192 {sc : List Int} {d : Nat} {φ : hf_F} {x : Nat} {Q : Option jm_V → hf_F → Nat → Prop} {v1 : Int} (hI : Inv φ) (hp0 : φ 192 28 ≤ 40) (hQ : ∀ ψ : hf_F, Inv ψ → Fr [201, 193028] φ ψ → ψ 192 28 ≤ φ 192 28 + 8 → F_RideLawsModel_spells_192 φ v1 = ψ → Q none ψ x) : hw sc (d + 1) 250 0 [(0, (2, 192)), (1, (1, v1))] [] φ x Q := by
  apply sf_250_192_v
  have e0 : F_RideLawsModel_spells_192 φ v1 = _ := rfl
  have f1 := iv_at (a := 192) (k := 28) (lo := 0) (u := 48) hI (by decide +kernel)
  exact sf_250_192_l3 ((56 + 8 : Int).toNat + 1) φ (jm_st1 [(0, (2, 192)), (1, (1, v1))] 3 (0, 56)) v1 56 (get_st1 rfl (by decide) (fun q => absurd q.1 (by decide))) (get_st1 rfl (by decide) (fun q => absurd q.1 (by decide))) get_st1e hI (by omega) (by omega) (by omega) (by omega) (fun χ hIχ hFχ hVχ hEχ => hQ χ hIχ (fr_tr (fr_rf) hFχ (by decide)) (by omega) (e0.trans hEχ))
theorem sf_252_192_v {sc : List Int} {d : Nat} {φ : hf_F} {x : Nat} {Q : Option jm_V → hf_F → Nat → Prop} {v1 : Int}
    (H : hw sc (d + 1) 251 0 [(0, (2, 192)), (1, (0, 32))] [] φ x (fun r ψ1 y1 => y1 = x ∧ (r = none ∧ (hw sc (d + 1) 250 0 [(0, (2, 192)), (1, (1, v1))] [] ψ1 x (fun r ψ2 y2 => y2 = x ∧ (r = none ∧ (Q none ψ2 x))))))) :
    hw sc (d + 2) 252 0 [(0, (2, 192)), (1, (1, v1))] [] φ x Q := by
  refine hw_ald (b := 0) (e := 0) (by decide +kernel) rfl (by decide) ?_
  refine hw_k (c := 32) (b := 1) (e := 2) (by decide +kernel) ?_
  refine hr_call (a0 := 22) (b := 251) (e := 2) (nl := 2) (As := [(0, 32)]) (R := []) 192 rfl (by decide +kernel) rfl rfl (Nat.le_of_ble_eq_true rfl) (Nat.le_of_ble_eq_true rfl) ?_
  refine hw_mono H ?_
  rintro r ψ1 y1 ⟨hyx, hr, H⟩
  subst hyx
  subst hr
  refine ⟨hnen, ?_⟩
  show hw sc (d + 2) 252 6 [(0, (2, 192)), (1, (1, v1))] [] ψ1 y1 Q
  refine hw_ald (b := 0) (e := 0) (by decide +kernel) rfl (by decide) ?_
  refine hw_lld (b := 1) (e := 0) (by decide +kernel) rfl ?_
  refine hr_call (a0 := 22) (b := 250) (e := 2) (nl := 4) (As := [(1, v1)]) (R := []) 192 rfl (by decide +kernel) rfl rfl (Nat.le_of_ble_eq_true rfl) (Nat.le_of_ble_eq_true rfl) ?_
  refine hw_mono H ?_
  rintro r ψ2 y2 ⟨hyx, hr, H⟩
  subst hyx
  subst hr
  refine ⟨hnen, ?_⟩
  show hw sc (d + 2) 252 11 [(0, (2, 192)), (1, (1, v1))] [] ψ2 y2 Q
  exact hw_vret (a0 := 0) (e := 0) (by decide +kernel) H
theorem sf_252_192 {sc : List Int} {d : Nat} {φ : hf_F} {x : Nat} {Q : Option jm_V → hf_F → Nat → Prop} {v1 : Int} (hI : Inv φ) (hp0 : φ 192 28 ≤ 39) (hQ : ∀ ψ : hf_F, Inv ψ → Fr [201, 193028] φ ψ → ψ 192 28 ≤ φ 192 28 + 9 → F_RideLawsModel_says_192 φ v1 = ψ → Q none ψ x) : hw sc (d + 2) 252 0 [(0, (2, 192)), (1, (1, v1))] [] φ x Q := by
  apply sf_252_192_v
  have e0 : F_RideLawsModel_says_192 φ v1 = _ := rfl
  have f1 := iv_at (a := 192) (k := 28) (lo := 0) (u := 48) hI (by decide +kernel)
  refine sf_251_192 (φ := φ) hI (by omega) (fun ψ1 hI1 hF1 hV1 hE1 => ⟨rfl, rfl, ?_⟩)
  have hG1 : Fr [201, 193028] φ ψ1 := fr_tr (fr_rf) hF1 (by decide)
  have f2 := iv_at (a := 192) (k := 28) (lo := 0) (u := 48) hI1 (by decide +kernel)
  have e1 := e0.trans (bnv_e hE1)
  refine sf_250_192 (φ := ψ1) hI1 (by omega) (fun ψ2 hI2 hF2 hV2 hE2 => ⟨rfl, rfl, ?_⟩)
  have hG2 : Fr [201, 193028] φ ψ2 := fr_tr hG1 hF2 (by decide)
  have f3 := iv_at (a := 192) (k := 28) (lo := 0) (u := 48) hI2 (by decide +kernel)
  have e2 := e1.trans (bnv_e hE2)
  exact hQ ψ2 hI2 hG2 (by omega) e2
theorem sf_249_192_v {sc : List Int} {d : Nat} {φ : hf_F} {x : Nat} {Q : Option jm_V → hf_F → Nat → Prop} {v1 : Int}
    (H : hw sc (d + 2) 202 0 [(0, (2, 192)), (1, (0, v1))] [] (hf_up φ 192 0 0) x (fun r ψ1 y1 => y1 = x ∧ (hf_up φ 192 0 0) = ψ1 ∧ (∃ z1 : Int, r = some (0, z1) ∧ (hi z1 ∧ (¬ z1 = 0 → 0 ≤ (19 + v1) ∧ (19 + v1) < 66 ∧ (hw sc (d + 2) 250 0 [(0, (2, 192)), (1, (1, φ 197 ((19 + v1).toNat)))] [] (hf_up (hf_up φ 192 0 0) 192 28 0) x (fun r ψ4 y4 => y4 = x ∧ (r = none ∧ (0 ≤ (112 + v1) ∧ (112 + v1) < 361 ∧ (hi (ψ4 194 ((112 + v1).toNat)) ∧ ((ψ4 194 ((112 + v1).toNat)) ≤ 0 → hw sc (d + 2) 252 0 [(0, (2, 192)), (1, (1, 7300710))] [] ψ4 x (fun r ψ7 y7 => y7 = x ∧ (r = none ∧ (0 ≤ (118 + v1) ∧ (118 + v1) < 361 ∧ (hi (ψ7 194 ((118 + v1).toNat)) ∧ (¬ (ψ7 194 ((118 + v1).toNat)) = 0 → hw sc (d + 2) 252 0 [(0, (2, 192)), (1, (1, 1852143732))] [] ψ7 x (fun r ψ10 y10 => y10 = x ∧ (r = none ∧ (hw sc (d + 2) 204 0 [(0, (2, 192)), (1, (0, v1))] [] ψ10 x (fun r ψ11 y11 => y11 = x ∧ ψ10 = ψ11 ∧ (∃ z11 : Int, r = some (0, z11) ∧ (0 ≤ (11 + z11) ∧ (11 + z11) < 66 ∧ (hw sc (d + 2) 252 0 [(0, (2, 192)), (1, (1, ψ10 197 ((11 + z11).toNat)))] [] ψ10 x (fun r ψ13 y13 => y13 = x ∧ (r = none ∧ (Q (some (0, ψ13 192 28)) ψ13 x))))))))))) ∧ (¬ (¬ (ψ7 194 ((118 + v1).toNat)) = 0) → hw sc (d + 2) 252 0 [(0, (2, 192)), (1, (1, 1836414053))] [] ψ7 x (fun r ψ15 y15 => y15 = x ∧ (r = none ∧ (Q (some (0, ψ15 192 28)) ψ15 x))))))))) ∧ (¬ (ψ4 194 ((112 + v1).toNat)) ≤ 0 → hw sc (d + 2) 252 0 [(0, (2, 192)), (1, (1, 28526))] [] ψ4 x (fun r ψ17 y17 => y17 = x ∧ (r = none ∧ (0 ≤ (112 + v1) ∧ (112 + v1) < 361 ∧ (0 ≤ ((3 + (ψ17 194 ((112 + v1).toNat))) - 1) ∧ ((3 + (ψ17 194 ((112 + v1).toNat))) - 1) < 66 ∧ (hw sc (d + 2) 252 0 [(0, (2, 192)), (1, (1, ψ17 197 (((3 + (ψ17 194 ((112 + v1).toNat))) - 1).toNat)))] [] ψ17 x (fun r ψ20 y20 => y20 = x ∧ (r = none ∧ (0 ≤ (118 + v1) ∧ (118 + v1) < 361 ∧ (hi (ψ20 194 ((118 + v1).toNat)) ∧ (¬ (ψ20 194 ((118 + v1).toNat)) = 0 → hw sc (d + 2) 252 0 [(0, (2, 192)), (1, (1, 1852143732))] [] ψ20 x (fun r ψ23 y23 => y23 = x ∧ (r = none ∧ (hw sc (d + 2) 204 0 [(0, (2, 192)), (1, (0, v1))] [] ψ23 x (fun r ψ24 y24 => y24 = x ∧ ψ23 = ψ24 ∧ (∃ z24 : Int, r = some (0, z24) ∧ (0 ≤ (11 + z24) ∧ (11 + z24) < 66 ∧ (hw sc (d + 2) 252 0 [(0, (2, 192)), (1, (1, ψ23 197 ((11 + z24).toNat)))] [] ψ23 x (fun r ψ26 y26 => y26 = x ∧ (r = none ∧ (Q (some (0, ψ26 192 28)) ψ26 x))))))))))) ∧ (¬ (¬ (ψ20 194 ((118 + v1).toNat)) = 0) → hw sc (d + 2) 252 0 [(0, (2, 192)), (1, (1, 1836414053))] [] ψ20 x (fun r ψ28 y28 => y28 = x ∧ (r = none ∧ (Q (some (0, ψ28 192 28)) ψ28 x)))))))))))))))))))) ∧ (¬ (¬ z1 = 0) → Q (some (0, (-1 : Int))) (hf_up φ 192 0 0) x))))) :
    hw sc (d + 3) 249 0 [(0, (2, 192)), (1, (0, v1))] [] φ x Q := by
  refine hw_ald (b := 0) (e := 0) (by decide +kernel) rfl (by decide) ?_
  refine hw_k (c := 0) (b := 0) (e := 1) (by decide +kernel) ?_
  refine hr_pi (b := 12) (e := 0) 192 rfl (by decide +kernel) ?_
  refine hw_ald (b := 0) (e := 0) (by decide +kernel) rfl (by decide) ?_
  refine hw_ld (b := 1) (e := 0) (by decide +kernel) rfl ?_
  refine hr_call (a0 := 22) (b := 202) (e := 2) (nl := 2) (As := [(0, v1)]) (R := []) 192 rfl (by decide +kernel) rfl rfl (Nat.le_of_ble_eq_true rfl) (Nat.le_of_ble_eq_true rfl) ?_
  refine hw_mono H ?_
  rintro r ψ1 y1 ⟨hyx, hψx, z1, hr, H⟩
  subst hyx
  subst hψx
  subst hr
  refine ⟨hne0, ?_⟩
  show hw sc (d + 3) 249 10 [(0, (2, 192)), (1, (0, v1))] [(0, z1)] (hf_up φ 192 0 0) y1 Q
  obtain ⟨hz2, ht2, hf2⟩ := H
  refine hw_if (a0 := 0) (b := 1) (e := 15) (by decide +kernel) hz2 (fun q => ?_) (fun q => ?_)
  · have H := ht2 q
    refine hw_ald (b := 0) (e := 0) (by decide +kernel) rfl (by decide) ?_
    refine hw_k (c := 0) (b := 0) (e := 1) (by decide +kernel) ?_
    refine hr_pi (b := 12) (e := 28) 192 rfl (by decide +kernel) ?_
    refine hw_ald (b := 0) (e := 0) (by decide +kernel) rfl (by decide) ?_
    refine hw_ald (b := 0) (e := 0) (by decide +kernel) rfl (by decide) ?_
    refine hr_gr (w := 197) (b := 12) (e := 9) 192 rfl (by decide +kernel) ?_
    refine hw_k (c := 19) (b := 1) (e := 2) (by decide +kernel) ?_
    refine hw_ld (b := 1) (e := 0) (by decide +kernel) rfl ?_
    refine hw_bin (w := 19 + v1) (a0 := 0) (b := 0) (e := 0) (by decide +kernel) rfl ?_
    obtain ⟨hl3, hu3, H⟩ := H
    refine hr_all (a0 := 0) (e := 0) (n := 66) (w := φ 197 ((19 + v1).toNat)) 197 rfl (by decide +kernel) hl3 hu3 ((hf_up_ne (fun q => absurd q.1 (by decide))).trans (hf_up_ne (fun q => absurd q.1 (by decide)))) ?_
    refine hr_call (a0 := 22) (b := 250) (e := 2) (nl := 4) (As := [(1, φ 197 ((19 + v1).toNat))]) (R := []) 192 rfl (by decide +kernel) rfl rfl (Nat.le_of_ble_eq_true rfl) (Nat.le_of_ble_eq_true rfl) ?_
    refine hw_mono H ?_
    rintro r ψ4 y4 ⟨hyx, hr, H⟩
    subst hyx
    subst hr
    refine ⟨hnen, ?_⟩
    show hw sc (d + 3) 249 33 [(0, (2, 192)), (1, (0, v1))] [] ψ4 y4 Q
    refine hw_ald (b := 0) (e := 0) (by decide +kernel) rfl (by decide) ?_
    refine hr_gr (w := 194) (b := 12) (e := 6) 192 rfl (by decide +kernel) ?_
    refine hw_k (c := 112) (b := 1) (e := 2) (by decide +kernel) ?_
    refine hw_ld (b := 1) (e := 0) (by decide +kernel) rfl ?_
    refine hw_bin (w := 112 + v1) (a0 := 0) (b := 0) (e := 0) (by decide +kernel) rfl ?_
    obtain ⟨hl5, hu5, H⟩ := H
    refine hr_al (b := 0) (a0 := 0) (e := 0) (n := 361) (w := ψ4 194 ((112 + v1).toNat)) 194 rfl (by decide +kernel) (by decide) hl5 hu5 rfl ?_
    obtain ⟨hz6, ht6, hf6⟩ := H
    refine hw_if (a0 := 0) (b := 5) (e := 77) (by decide +kernel) hz6 (fun q => ?_) (fun q => ?_)
    · have H := ht6 q
      refine hw_ald (b := 0) (e := 0) (by decide +kernel) rfl (by decide) ?_
      refine hw_lk (c := 7300710) (b := 1) (e := 3) (by decide +kernel) ?_
      refine hr_call (a0 := 22) (b := 252) (e := 2) (nl := 3) (As := [(1, 7300710)]) (R := []) 192 rfl (by decide +kernel) rfl rfl (Nat.le_of_ble_eq_true rfl) (Nat.le_of_ble_eq_true rfl) ?_
      refine hw_mono H ?_
      rintro r ψ7 y7 ⟨hyx, hr, H⟩
      subst hyx
      subst hr
      refine ⟨hnen, ?_⟩
      show hw sc (d + 3) 249 84 [(0, (2, 192)), (1, (0, v1))] [] ψ7 y7 Q
      refine hw_ald (b := 0) (e := 0) (by decide +kernel) rfl (by decide) ?_
      refine hr_gr (w := 194) (b := 12) (e := 6) 192 rfl (by decide +kernel) ?_
      refine hw_k (c := 118) (b := 1) (e := 2) (by decide +kernel) ?_
      refine hw_ld (b := 1) (e := 0) (by decide +kernel) rfl ?_
      refine hw_bin (w := 118 + v1) (a0 := 0) (b := 0) (e := 0) (by decide +kernel) rfl ?_
      obtain ⟨hl8, hu8, H⟩ := H
      refine hr_al (b := 0) (a0 := 0) (e := 0) (n := 361) (w := ψ7 194 ((118 + v1).toNat)) 194 rfl (by decide +kernel) (by decide) hl8 hu8 rfl ?_
      obtain ⟨hz9, ht9, hf9⟩ := H
      refine hw_if (a0 := 0) (b := 1) (e := 106) (by decide +kernel) hz9 (fun q => ?_) (fun q => ?_)
      · have H := ht9 q
        refine hw_ald (b := 0) (e := 0) (by decide +kernel) rfl (by decide) ?_
        refine hw_lk (c := 1852143732) (b := 1) (e := 3) (by decide +kernel) ?_
        refine hr_call (a0 := 22) (b := 252) (e := 2) (nl := 3) (As := [(1, 1852143732)]) (R := []) 192 rfl (by decide +kernel) rfl rfl (Nat.le_of_ble_eq_true rfl) (Nat.le_of_ble_eq_true rfl) ?_
        refine hw_mono H ?_
        rintro r ψ10 y10 ⟨hyx, hr, H⟩
        subst hyx
        subst hr
        refine ⟨hnen, ?_⟩
        show hw sc (d + 3) 249 113 [(0, (2, 192)), (1, (0, v1))] [] ψ10 y10 Q
        refine hw_ald (b := 0) (e := 0) (by decide +kernel) rfl (by decide) ?_
        refine hw_ald (b := 0) (e := 0) (by decide +kernel) rfl (by decide) ?_
        refine hr_gr (w := 197) (b := 12) (e := 9) 192 rfl (by decide +kernel) ?_
        refine hw_k (c := 11) (b := 1) (e := 2) (by decide +kernel) ?_
        refine hw_ald (b := 0) (e := 0) (by decide +kernel) rfl (by decide) ?_
        refine hw_ld (b := 1) (e := 0) (by decide +kernel) rfl ?_
        refine hr_call (a0 := 22) (b := 204) (e := 2) (nl := 2) (As := [(0, v1)]) (R := [(0, 11), (2, 197), (2, 192)]) 192 rfl (by decide +kernel) rfl rfl (Nat.le_of_ble_eq_true rfl) (Nat.le_of_ble_eq_true rfl) ?_
        refine hw_mono H ?_
        rintro r ψ11 y11 ⟨hyx, hψx, z11, hr, H⟩
        subst hyx
        subst hψx
        subst hr
        refine ⟨hne0, ?_⟩
        show hw sc (d + 3) 249 125 [(0, (2, 192)), (1, (0, v1))] [(0, z11), (0, 11), (2, 197), (2, 192)] ψ10 y11 Q
        refine hw_bin (w := 11 + z11) (a0 := 0) (b := 0) (e := 0) (by decide +kernel) rfl ?_
        obtain ⟨hl12, hu12, H⟩ := H
        refine hr_all (a0 := 0) (e := 0) (n := 66) (w := ψ10 197 ((11 + z11).toNat)) 197 rfl (by decide +kernel) hl12 hu12 rfl ?_
        refine hr_call (a0 := 22) (b := 252) (e := 2) (nl := 3) (As := [(1, ψ10 197 ((11 + z11).toNat))]) (R := []) 192 rfl (by decide +kernel) rfl rfl (Nat.le_of_ble_eq_true rfl) (Nat.le_of_ble_eq_true rfl) ?_
        refine hw_mono H ?_
        rintro r ψ13 y13 ⟨hyx, hr, H⟩
        subst hyx
        subst hr
        refine ⟨hnen, ?_⟩
        show hw sc (d + 3) 249 130 [(0, (2, 192)), (1, (0, v1))] [] ψ13 y13 Q
        refine hw_ald (b := 0) (e := 0) (by decide +kernel) rfl (by decide) ?_
        refine hr_gi (w := ψ13 192 28) (b := 12) (e := 28) 192 rfl (by decide +kernel) rfl ?_
        exact hw_ret (a0 := 0) (e := 0) (by decide +kernel) (Or.inl rfl) H
      · have H := hf9 q
        refine hw_ald (b := 0) (e := 0) (by decide +kernel) rfl (by decide) ?_
        refine hw_lk (c := 1836414053) (b := 1) (e := 3) (by decide +kernel) ?_
        refine hr_call (a0 := 22) (b := 252) (e := 2) (nl := 3) (As := [(1, 1836414053)]) (R := []) 192 rfl (by decide +kernel) rfl rfl (Nat.le_of_ble_eq_true rfl) (Nat.le_of_ble_eq_true rfl) ?_
        refine hw_mono H ?_
        rintro r ψ15 y15 ⟨hyx, hr, H⟩
        subst hyx
        subst hr
        refine ⟨hnen, ?_⟩
        show hw sc (d + 3) 249 103 [(0, (2, 192)), (1, (0, v1))] [] ψ15 y15 Q
        refine hw_goto (a0 := 0) (b := 0) (e := 130) (by decide +kernel) ?_
        refine hw_ald (b := 0) (e := 0) (by decide +kernel) rfl (by decide) ?_
        refine hr_gi (w := ψ15 192 28) (b := 12) (e := 28) 192 rfl (by decide +kernel) rfl ?_
        exact hw_ret (a0 := 0) (e := 0) (by decide +kernel) (Or.inl rfl) H
    · have H := hf6 q
      refine hw_ald (b := 0) (e := 0) (by decide +kernel) rfl (by decide) ?_
      refine hw_lk (c := 28526) (b := 1) (e := 3) (by decide +kernel) ?_
      refine hr_call (a0 := 22) (b := 252) (e := 2) (nl := 3) (As := [(1, 28526)]) (R := []) 192 rfl (by decide +kernel) rfl rfl (Nat.le_of_ble_eq_true rfl) (Nat.le_of_ble_eq_true rfl) ?_
      refine hw_mono H ?_
      rintro r ψ17 y17 ⟨hyx, hr, H⟩
      subst hyx
      subst hr
      refine ⟨hnen, ?_⟩
      show hw sc (d + 3) 249 52 [(0, (2, 192)), (1, (0, v1))] [] ψ17 y17 Q
      refine hw_ald (b := 0) (e := 0) (by decide +kernel) rfl (by decide) ?_
      refine hw_ald (b := 0) (e := 0) (by decide +kernel) rfl (by decide) ?_
      refine hr_gr (w := 197) (b := 12) (e := 9) 192 rfl (by decide +kernel) ?_
      refine hw_k (c := 3) (b := 0) (e := 1) (by decide +kernel) ?_
      refine hw_ald (b := 0) (e := 0) (by decide +kernel) rfl (by decide) ?_
      refine hr_gr (w := 194) (b := 12) (e := 6) 192 rfl (by decide +kernel) ?_
      refine hw_k (c := 112) (b := 1) (e := 2) (by decide +kernel) ?_
      refine hw_ld (b := 1) (e := 0) (by decide +kernel) rfl ?_
      refine hw_bin (w := 112 + v1) (a0 := 0) (b := 0) (e := 0) (by decide +kernel) rfl ?_
      obtain ⟨hl18, hu18, H⟩ := H
      refine hr_al (b := 0) (a0 := 0) (e := 0) (n := 361) (w := ψ17 194 ((112 + v1).toNat)) 194 rfl (by decide +kernel) (by decide) hl18 hu18 rfl ?_
      refine hw_bin (w := 3 + (ψ17 194 ((112 + v1).toNat))) (a0 := 0) (b := 0) (e := 0) (by decide +kernel) rfl ?_
      refine hw_k (c := 1) (b := 0) (e := 1) (by decide +kernel) ?_
      refine hw_bin (w := (3 + (ψ17 194 ((112 + v1).toNat))) - 1) (a0 := 0) (b := 1) (e := 0) (by decide +kernel) rfl ?_
      obtain ⟨hl19, hu19, H⟩ := H
      refine hr_all (a0 := 0) (e := 0) (n := 66) (w := ψ17 197 (((3 + (ψ17 194 ((112 + v1).toNat))) - 1).toNat)) 197 rfl (by decide +kernel) hl19 hu19 rfl ?_
      refine hr_call (a0 := 22) (b := 252) (e := 2) (nl := 3) (As := [(1, ψ17 197 (((3 + (ψ17 194 ((112 + v1).toNat))) - 1).toNat))]) (R := []) 192 rfl (by decide +kernel) rfl rfl (Nat.le_of_ble_eq_true rfl) (Nat.le_of_ble_eq_true rfl) ?_
      refine hw_mono H ?_
      rintro r ψ20 y20 ⟨hyx, hr, H⟩
      subst hyx
      subst hr
      refine ⟨hnen, ?_⟩
      show hw sc (d + 3) 249 74 [(0, (2, 192)), (1, (0, v1))] [] ψ20 y20 Q
      refine hw_goto (a0 := 0) (b := 0) (e := 84) (by decide +kernel) ?_
      refine hw_ald (b := 0) (e := 0) (by decide +kernel) rfl (by decide) ?_
      refine hr_gr (w := 194) (b := 12) (e := 6) 192 rfl (by decide +kernel) ?_
      refine hw_k (c := 118) (b := 1) (e := 2) (by decide +kernel) ?_
      refine hw_ld (b := 1) (e := 0) (by decide +kernel) rfl ?_
      refine hw_bin (w := 118 + v1) (a0 := 0) (b := 0) (e := 0) (by decide +kernel) rfl ?_
      obtain ⟨hl21, hu21, H⟩ := H
      refine hr_al (b := 0) (a0 := 0) (e := 0) (n := 361) (w := ψ20 194 ((118 + v1).toNat)) 194 rfl (by decide +kernel) (by decide) hl21 hu21 rfl ?_
      obtain ⟨hz22, ht22, hf22⟩ := H
      refine hw_if (a0 := 0) (b := 1) (e := 106) (by decide +kernel) hz22 (fun q => ?_) (fun q => ?_)
      · have H := ht22 q
        refine hw_ald (b := 0) (e := 0) (by decide +kernel) rfl (by decide) ?_
        refine hw_lk (c := 1852143732) (b := 1) (e := 3) (by decide +kernel) ?_
        refine hr_call (a0 := 22) (b := 252) (e := 2) (nl := 3) (As := [(1, 1852143732)]) (R := []) 192 rfl (by decide +kernel) rfl rfl (Nat.le_of_ble_eq_true rfl) (Nat.le_of_ble_eq_true rfl) ?_
        refine hw_mono H ?_
        rintro r ψ23 y23 ⟨hyx, hr, H⟩
        subst hyx
        subst hr
        refine ⟨hnen, ?_⟩
        show hw sc (d + 3) 249 113 [(0, (2, 192)), (1, (0, v1))] [] ψ23 y23 Q
        refine hw_ald (b := 0) (e := 0) (by decide +kernel) rfl (by decide) ?_
        refine hw_ald (b := 0) (e := 0) (by decide +kernel) rfl (by decide) ?_
        refine hr_gr (w := 197) (b := 12) (e := 9) 192 rfl (by decide +kernel) ?_
        refine hw_k (c := 11) (b := 1) (e := 2) (by decide +kernel) ?_
        refine hw_ald (b := 0) (e := 0) (by decide +kernel) rfl (by decide) ?_
        refine hw_ld (b := 1) (e := 0) (by decide +kernel) rfl ?_
        refine hr_call (a0 := 22) (b := 204) (e := 2) (nl := 2) (As := [(0, v1)]) (R := [(0, 11), (2, 197), (2, 192)]) 192 rfl (by decide +kernel) rfl rfl (Nat.le_of_ble_eq_true rfl) (Nat.le_of_ble_eq_true rfl) ?_
        refine hw_mono H ?_
        rintro r ψ24 y24 ⟨hyx, hψx, z24, hr, H⟩
        subst hyx
        subst hψx
        subst hr
        refine ⟨hne0, ?_⟩
        show hw sc (d + 3) 249 125 [(0, (2, 192)), (1, (0, v1))] [(0, z24), (0, 11), (2, 197), (2, 192)] ψ23 y24 Q
        refine hw_bin (w := 11 + z24) (a0 := 0) (b := 0) (e := 0) (by decide +kernel) rfl ?_
        obtain ⟨hl25, hu25, H⟩ := H
        refine hr_all (a0 := 0) (e := 0) (n := 66) (w := ψ23 197 ((11 + z24).toNat)) 197 rfl (by decide +kernel) hl25 hu25 rfl ?_
        refine hr_call (a0 := 22) (b := 252) (e := 2) (nl := 3) (As := [(1, ψ23 197 ((11 + z24).toNat))]) (R := []) 192 rfl (by decide +kernel) rfl rfl (Nat.le_of_ble_eq_true rfl) (Nat.le_of_ble_eq_true rfl) ?_
        refine hw_mono H ?_
        rintro r ψ26 y26 ⟨hyx, hr, H⟩
        subst hyx
        subst hr
        refine ⟨hnen, ?_⟩
        show hw sc (d + 3) 249 130 [(0, (2, 192)), (1, (0, v1))] [] ψ26 y26 Q
        refine hw_ald (b := 0) (e := 0) (by decide +kernel) rfl (by decide) ?_
        refine hr_gi (w := ψ26 192 28) (b := 12) (e := 28) 192 rfl (by decide +kernel) rfl ?_
        exact hw_ret (a0 := 0) (e := 0) (by decide +kernel) (Or.inl rfl) H
      · have H := hf22 q
        refine hw_ald (b := 0) (e := 0) (by decide +kernel) rfl (by decide) ?_
        refine hw_lk (c := 1836414053) (b := 1) (e := 3) (by decide +kernel) ?_
        refine hr_call (a0 := 22) (b := 252) (e := 2) (nl := 3) (As := [(1, 1836414053)]) (R := []) 192 rfl (by decide +kernel) rfl rfl (Nat.le_of_ble_eq_true rfl) (Nat.le_of_ble_eq_true rfl) ?_
        refine hw_mono H ?_
        rintro r ψ28 y28 ⟨hyx, hr, H⟩
        subst hyx
        subst hr
        refine ⟨hnen, ?_⟩
        show hw sc (d + 3) 249 103 [(0, (2, 192)), (1, (0, v1))] [] ψ28 y28 Q
        refine hw_goto (a0 := 0) (b := 0) (e := 130) (by decide +kernel) ?_
        refine hw_ald (b := 0) (e := 0) (by decide +kernel) rfl (by decide) ?_
        refine hr_gi (w := ψ28 192 28) (b := 12) (e := 28) 192 rfl (by decide +kernel) rfl ?_
        exact hw_ret (a0 := 0) (e := 0) (by decide +kernel) (Or.inl rfl) H
  · have H := hf2 q
    refine hw_k (c := (-1 : Int)) (b := 0) (e := 1) (by decide +kernel) ?_
    exact hw_ret (a0 := 0) (e := 0) (by decide +kernel) (Or.inl rfl) H
theorem sf_249_192 {sc : List Int} {d : Nat} {φ : hf_F} {x : Nat} {Q : Option jm_V → hf_F → Nat → Prop} {v1 : Int} (hI : Inv φ) (h1a : (-2147483648 : Int) ≤ v1) (h1b : v1 ≤ 2147483647) (hQ : ∀ (r : Int) (ψ : hf_F), Inv ψ → Fr [201, 193000, 193028] φ ψ → True → F_RideLawsModel_line_192 φ v1 = (r, ψ) → Q (some (0, r)) ψ x) : hw sc (d + 3) 249 0 [(0, (2, 192)), (1, (0, v1))] [] φ x Q := by
  apply sf_249_192_v
  have e0 : F_RideLawsModel_line_192 φ v1 = _ := rfl
  have i1 : Inv (hf_up φ 192 0 0) := iv_up (lo := 0) (u := 1) hI (by decide +kernel) (by omega) (by omega)
  have r1 : Fr [201, 193000, 193028] φ (hf_up φ 192 0 0) := fr_up (fr_rf) (by decide)
  refine sf_202_192 (φ := (hf_up φ 192 0 0)) i1 (by omega) (by omega) (fun z1 hp1 hE1 => ⟨rfl, rfl, z1, rfl, ?_⟩)
  have e1 := e0.trans (bnp_e hE1)
  have f2 : (hf_up φ 192 0 0) 194 3 = φ 194 3 := (hf_up_ne (fun q => absurd q.1 (by decide)))
  have f3 := iv_at (a := 194) (k := 3) (lo := 0) (u := 6) hI (by decide +kernel)
  refine ⟨by unfold hi; omega, fun q2 => ?_, fun q2 => ?_⟩
  · skip
    have e2a := e1.trans (if_pos q2)
    have i4 : Inv (hf_up (hf_up φ 192 0 0) 192 28 0) := iv_up (lo := 0) (u := 48) i1 (by decide +kernel) (by omega) (by omega)
    have r4 : Fr [201, 193000, 193028] φ (hf_up (hf_up φ 192 0 0) 192 28 0) := fr_up r1 (by decide)
    refine ⟨by omega, by omega, ?_⟩
    have f5 : (hf_up (hf_up φ 192 0 0) 192 28 0) 192 28 = 0 := hf_up_eq
    refine sf_250_192 (φ := (hf_up (hf_up φ 192 0 0) 192 28 0)) i4 (by omega) (fun ψ4 hI4 hF4 hV4 hE4 => ⟨rfl, rfl, ?_⟩)
    have hG4 : Fr [201, 193000, 193028] φ ψ4 := fr_tr r4 hF4 (by decide)
    have f6 := iv_at (a := 192) (k := 28) (lo := 0) (u := 48) hI4 (by decide +kernel)
    have e4 := e2a.trans (bnv_e hE4)
    refine ⟨by omega, by omega, ?_⟩
    have f7 := iv_ar (a := 194) (s := 112) (t := 118) (lo := 0) (u := 8) (z := 112 + v1) hI4 (by decide +kernel) (by omega) (by omega)
    have f8 : ψ4 194 ((112 + v1).toNat) = φ 194 ((112 + v1).toNat) := (fr_at hF4 194 (by decide) ((112 + v1).toNat)).trans ((hf_up_ne (fun q => absurd q.1 (by decide))).trans (hf_up_ne (fun q => absurd q.1 (by decide))))
    have f9 := iv_ar (a := 194) (s := 112) (t := 118) (lo := 0) (u := 8) (z := 112 + v1) hI (by decide +kernel) (by omega) (by omega)
    refine ⟨by unfold hi; omega, fun q6 => ?_, fun q6 => ?_⟩
    · skip
      have e6a := e4.trans (if_pos q6)
      refine sf_252_192 (φ := ψ4) hI4 (by omega) (fun ψ7 hI7 hF7 hV7 hE7 => ⟨rfl, rfl, ?_⟩)
      have hG7 : Fr [201, 193000, 193028] φ ψ7 := fr_tr hG4 hF7 (by decide)
      have f10 := iv_at (a := 192) (k := 28) (lo := 0) (u := 48) hI7 (by decide +kernel)
      have e7 := e6a.trans (bnv_e hE7)
      refine ⟨by omega, by omega, ?_⟩
      have f11 := iv_ar (a := 194) (s := 118) (t := 124) (lo := 0) (u := 6) (z := 118 + v1) hI7 (by decide +kernel) (by omega) (by omega)
      have f12 : ψ7 194 ((118 + v1).toNat) = ψ4 194 ((118 + v1).toNat) := (fr_at hF7 194 (by decide) ((118 + v1).toNat))
      have f13 := iv_ar (a := 194) (s := 118) (t := 124) (lo := 0) (u := 6) (z := 118 + v1) hI4 (by decide +kernel) (by omega) (by omega)
      have f14 : ψ4 194 ((118 + v1).toNat) = φ 194 ((118 + v1).toNat) := (fr_at hF4 194 (by decide) ((118 + v1).toNat)).trans ((hf_up_ne (fun q => absurd q.1 (by decide))).trans (hf_up_ne (fun q => absurd q.1 (by decide))))
      have f15 := iv_ar (a := 194) (s := 118) (t := 124) (lo := 0) (u := 6) (z := 118 + v1) hI (by decide +kernel) (by omega) (by omega)
      refine ⟨by unfold hi; omega, fun q9 => ?_, fun q9 => ?_⟩
      · skip
        have e9a := e7.trans (if_pos q9)
        refine sf_252_192 (φ := ψ7) hI7 (by omega) (fun ψ10 hI10 hF10 hV10 hE10 => ⟨rfl, rfl, ?_⟩)
        have hG10 : Fr [201, 193000, 193028] φ ψ10 := fr_tr hG7 hF10 (by decide)
        have f16 := iv_at (a := 192) (k := 28) (lo := 0) (u := 48) hI10 (by decide +kernel)
        have e10 := e9a.trans (bnv_e hE10)
        refine sf_204_192 (φ := ψ10) hI10 (by omega) (by omega) (fun z11 hp11 hE11 => ⟨rfl, rfl, z11, rfl, ?_⟩)
        have e11 := e10.trans (bnp_e hE11)
        refine ⟨by omega, by omega, ?_⟩
        refine sf_252_192 (φ := ψ10) hI10 (by omega) (fun ψ13 hI13 hF13 hV13 hE13 => ⟨rfl, rfl, ?_⟩)
        have hG13 : Fr [201, 193000, 193028] φ ψ13 := fr_tr hG10 hF13 (by decide)
        have f17 := iv_at (a := 192) (k := 28) (lo := 0) (u := 48) hI13 (by decide +kernel)
        have e13 := e11.trans (bnv_e hE13)
        exact hQ (ψ13 192 28) ψ13 hI13 hG13 trivial e13
      · skip
        have e9b := e7.trans (if_neg q9)
        refine sf_252_192 (φ := ψ7) hI7 (by omega) (fun ψ15 hI15 hF15 hV15 hE15 => ⟨rfl, rfl, ?_⟩)
        have hG15 : Fr [201, 193000, 193028] φ ψ15 := fr_tr hG7 hF15 (by decide)
        have f18 := iv_at (a := 192) (k := 28) (lo := 0) (u := 48) hI15 (by decide +kernel)
        have e15 := e9b.trans (bnv_e hE15)
        exact hQ (ψ15 192 28) ψ15 hI15 hG15 trivial e15
    · skip
      have e6b := e4.trans (if_neg q6)
      refine sf_252_192 (φ := ψ4) hI4 (by omega) (fun ψ17 hI17 hF17 hV17 hE17 => ⟨rfl, rfl, ?_⟩)
      have hG17 : Fr [201, 193000, 193028] φ ψ17 := fr_tr hG4 hF17 (by decide)
      have f19 := iv_at (a := 192) (k := 28) (lo := 0) (u := 48) hI17 (by decide +kernel)
      have e17 := e6b.trans (bnv_e hE17)
      refine ⟨by omega, by omega, ?_⟩
      have f20 := iv_ar (a := 194) (s := 112) (t := 118) (lo := 0) (u := 8) (z := 112 + v1) hI17 (by decide +kernel) (by omega) (by omega)
      have f21 : ψ17 194 ((112 + v1).toNat) = ψ4 194 ((112 + v1).toNat) := (fr_at hF17 194 (by decide) ((112 + v1).toNat))
      refine ⟨by omega, by omega, ?_⟩
      refine sf_252_192 (φ := ψ17) hI17 (by omega) (fun ψ20 hI20 hF20 hV20 hE20 => ⟨rfl, rfl, ?_⟩)
      have hG20 : Fr [201, 193000, 193028] φ ψ20 := fr_tr hG17 hF20 (by decide)
      have f22 := iv_at (a := 192) (k := 28) (lo := 0) (u := 48) hI20 (by decide +kernel)
      have e20 := e17.trans (bnv_e hE20)
      refine ⟨by omega, by omega, ?_⟩
      have f23 := iv_ar (a := 194) (s := 118) (t := 124) (lo := 0) (u := 6) (z := 118 + v1) hI20 (by decide +kernel) (by omega) (by omega)
      have f24 : ψ20 194 ((118 + v1).toNat) = ψ17 194 ((118 + v1).toNat) := (fr_at hF20 194 (by decide) ((118 + v1).toNat))
      have f25 := iv_ar (a := 194) (s := 118) (t := 124) (lo := 0) (u := 6) (z := 118 + v1) hI17 (by decide +kernel) (by omega) (by omega)
      have f26 : ψ17 194 ((118 + v1).toNat) = ψ4 194 ((118 + v1).toNat) := (fr_at hF17 194 (by decide) ((118 + v1).toNat))
      have f27 := iv_ar (a := 194) (s := 118) (t := 124) (lo := 0) (u := 6) (z := 118 + v1) hI4 (by decide +kernel) (by omega) (by omega)
      have f28 : ψ4 194 ((118 + v1).toNat) = φ 194 ((118 + v1).toNat) := (fr_at hF4 194 (by decide) ((118 + v1).toNat)).trans ((hf_up_ne (fun q => absurd q.1 (by decide))).trans (hf_up_ne (fun q => absurd q.1 (by decide))))
      have f29 := iv_ar (a := 194) (s := 118) (t := 124) (lo := 0) (u := 6) (z := 118 + v1) hI (by decide +kernel) (by omega) (by omega)
      refine ⟨by unfold hi; omega, fun q22 => ?_, fun q22 => ?_⟩
      · skip
        have e22a := e20.trans (if_pos q22)
        refine sf_252_192 (φ := ψ20) hI20 (by omega) (fun ψ23 hI23 hF23 hV23 hE23 => ⟨rfl, rfl, ?_⟩)
        have hG23 : Fr [201, 193000, 193028] φ ψ23 := fr_tr hG20 hF23 (by decide)
        have f30 := iv_at (a := 192) (k := 28) (lo := 0) (u := 48) hI23 (by decide +kernel)
        have e23 := e22a.trans (bnv_e hE23)
        refine sf_204_192 (φ := ψ23) hI23 (by omega) (by omega) (fun z24 hp24 hE24 => ⟨rfl, rfl, z24, rfl, ?_⟩)
        have e24 := e23.trans (bnp_e hE24)
        refine ⟨by omega, by omega, ?_⟩
        refine sf_252_192 (φ := ψ23) hI23 (by omega) (fun ψ26 hI26 hF26 hV26 hE26 => ⟨rfl, rfl, ?_⟩)
        have hG26 : Fr [201, 193000, 193028] φ ψ26 := fr_tr hG23 hF26 (by decide)
        have f31 := iv_at (a := 192) (k := 28) (lo := 0) (u := 48) hI26 (by decide +kernel)
        have e26 := e24.trans (bnv_e hE26)
        exact hQ (ψ26 192 28) ψ26 hI26 hG26 trivial e26
      · skip
        have e22b := e20.trans (if_neg q22)
        refine sf_252_192 (φ := ψ20) hI20 (by omega) (fun ψ28 hI28 hF28 hV28 hE28 => ⟨rfl, rfl, ?_⟩)
        have hG28 : Fr [201, 193000, 193028] φ ψ28 := fr_tr hG20 hF28 (by decide)
        have f32 := iv_at (a := 192) (k := 28) (lo := 0) (u := 48) hI28 (by decide +kernel)
        have e28 := e22b.trans (bnv_e hE28)
        exact hQ (ψ28 192 28) ψ28 hI28 hG28 trivial e28
  · skip
    have e2b := e1.trans (if_neg q2)
    exact hQ (-1 : Int) (hf_up φ 192 0 0) i1 r1 trivial e2b
theorem sf_257_192_v {sc : List Int} {d : Nat} {φ : hf_F} {x : Nat} {Q : Option jm_V → hf_F → Nat → Prop} {v1 : Int}
    (H : hi (hb_ushr (((φ 192 29) * 1103515245) + 12345) 8) ∧ hi v1 ∧ ¬ v1 = 0 ∧ (Q (some (0, (hb_ushr (((φ 192 29) * 1103515245) + 12345) 8).tmod v1)) (hf_up φ 192 29 (((φ 192 29) * 1103515245) + 12345)) x)) :
    hw sc d 257 0 [(0, (2, 192)), (1, (0, v1))] [] φ x Q := by
  refine hw_ald (b := 0) (e := 0) (by decide +kernel) rfl (by decide) ?_
  refine hw_ald (b := 0) (e := 0) (by decide +kernel) rfl (by decide) ?_
  refine hr_gi (w := φ 192 29) (b := 12) (e := 29) 192 rfl (by decide +kernel) rfl ?_
  refine hw_k (c := 1103515245) (b := 4) (e := 3) (by decide +kernel) ?_
  refine hw_bin (w := (φ 192 29) * 1103515245) (a0 := 0) (b := 2) (e := 0) (by decide +kernel) rfl ?_
  refine hw_k (c := 12345) (b := 2) (e := 3) (by decide +kernel) ?_
  refine hw_bin (w := ((φ 192 29) * 1103515245) + 12345) (a0 := 0) (b := 0) (e := 0) (by decide +kernel) rfl ?_
  refine hr_pi (b := 12) (e := 29) 192 rfl (by decide +kernel) ?_
  refine hw_ald (b := 0) (e := 0) (by decide +kernel) rfl (by decide) ?_
  refine hr_gi (w := ((φ 192 29) * 1103515245) + 12345) (b := 12) (e := 29) 192 rfl (by decide +kernel) hf_up_eq ?_
  refine hw_k (c := 8) (b := 1) (e := 2) (by decide +kernel) ?_
  refine hw_bin (w := hb_ushr (((φ 192 29) * 1103515245) + 12345) 8) (a0 := 0) (b := 8) (e := 0) (by decide +kernel) rfl ?_
  refine hw_ld (b := 1) (e := 0) (by decide +kernel) rfl ?_
  obtain ⟨hz1, hy1, hn1, H⟩ := H
  refine hw_bin (w := (hb_ushr (((φ 192 29) * 1103515245) + 12345) 8).tmod v1) (a0 := 0) (b := 10) (e := 0) (by decide +kernel) (hb_rem hz1 hy1 hn1) ?_
  exact hw_ret (a0 := 0) (e := 0) (by decide +kernel) (Or.inl rfl) H
theorem sf_257_192 {sc : List Int} {d : Nat} {φ : hf_F} {x : Nat} {Q : Option jm_V → hf_F → Nat → Prop} {v1 : Int} (hI : Inv φ) (h1a : 1 ≤ v1) (h1b : v1 ≤ 12) (hQ : ∀ (r : Int) (ψ : hf_F), Inv ψ → Fr [193029] φ ψ → 0 ≤ r ∧ r ≤ 11 ∧ r < v1 → F_RideLawsModel_draw_192 φ v1 = (r, ψ) → Q (some (0, r)) ψ x) : hw sc d 257 0 [(0, (2, 192)), (1, (0, v1))] [] φ x Q := by
  apply sf_257_192_v
  have e0 : F_RideLawsModel_draw_192 φ v1 = _ := rfl
  have i1 : Inv (hf_up φ 192 29 (((φ 192 29) * 1103515245) + 12345)) := iv_upn hI (by decide) (by decide) (by decide +kernel)
  have r1 : Fr [193029] φ (hf_up φ 192 29 (((φ 192 29) * 1103515245) + 12345)) := fr_up (fr_rf) (by decide)
  have f2 := hr_ushr8 (((φ 192 29) * 1103515245) + 12345)
  have f3 := hr_ushr (((φ 192 29) * 1103515245) + 12345) 8
  refine ⟨by unfold hi; omega, by unfold hi; omega, by omega, ?_⟩
  have f4 := hr_tmod (z := hb_ushr (((φ 192 29) * 1103515245) + 12345) 8) (y := v1) (by omega) (by omega)
  exact hQ ((hb_ushr (((φ 192 29) * 1103515245) + 12345) 8).tmod v1) (hf_up φ 192 29 (((φ 192 29) * 1103515245) + 12345)) i1 r1 ⟨by omega, by omega, by omega⟩ e0
theorem sf_256_192_v {sc : List Int} {d : Nat} {φ : hf_F} {x : Nat} {Q : Option jm_V → hf_F → Nat → Prop} 
    (H : hw sc (d + 1) 257 0 [(0, (2, 192)), (1, (0, 12))] [] φ x (fun r ψ1 y1 => y1 = x ∧ (∃ z1 : Int, r = some (0, z1) ∧ (hi z1 ∧ (¬ z1 = 0 → hi z1 ∧ hi 1 ∧ (¬ z1 = 1 → hi z1 ∧ hi 2 ∧ (¬ z1 = 2 → Q none ψ1 x) ∧ (¬ (¬ z1 = 2) → hw sc (d + 1) 222 0 [(0, (2, 192))] [] ψ1 x (fun r ψ6 y6 => y6 = x ∧ ψ1 = ψ6 ∧ (∃ z6 : Int, r = some (0, z6) ∧ (hi z6 ∧ (¬ z6 = 0 → Q none ψ1 x) ∧ (¬ (¬ z6 = 0) → hw sc (d + 1) 223 0 [(0, (2, 192))] [] ψ1 x (fun r ψ9 y9 => y9 = x ∧ (r = none ∧ (Q none ψ9 x))))))))) ∧ (¬ (¬ z1 = 1) → hi (ψ1 194 3) ∧ ((ψ1 194 3) ≤ 0 → hi z1 ∧ hi 2 ∧ (¬ z1 = 2 → Q none ψ1 x) ∧ (¬ (¬ z1 = 2) → hw sc (d + 1) 222 0 [(0, (2, 192))] [] ψ1 x (fun r ψ14 y14 => y14 = x ∧ ψ1 = ψ14 ∧ (∃ z14 : Int, r = some (0, z14) ∧ (hi z14 ∧ (¬ z14 = 0 → Q none ψ1 x) ∧ (¬ (¬ z14 = 0) → hw sc (d + 1) 223 0 [(0, (2, 192))] [] ψ1 x (fun r ψ17 y17 => y17 = x ∧ (r = none ∧ (Q none ψ17 x))))))))) ∧ (¬ (ψ1 194 3) ≤ 0 → hi (ψ1 194 2) ∧ ((ψ1 194 2) ≤ 0 → hi z1 ∧ hi 2 ∧ (¬ z1 = 2 → Q none ψ1 x) ∧ (¬ (¬ z1 = 2) → hw sc (d + 1) 222 0 [(0, (2, 192))] [] ψ1 x (fun r ψ22 y22 => y22 = x ∧ ψ1 = ψ22 ∧ (∃ z22 : Int, r = some (0, z22) ∧ (hi z22 ∧ (¬ z22 = 0 → Q none ψ1 x) ∧ (¬ (¬ z22 = 0) → hw sc (d + 1) 223 0 [(0, (2, 192))] [] ψ1 x (fun r ψ25 y25 => y25 = x ∧ (r = none ∧ (Q none ψ25 x))))))))) ∧ (¬ (ψ1 194 2) ≤ 0 → hw sc (d + 1) 257 0 [(0, (2, 192)), (1, (0, ψ1 194 3))] [] ψ1 x (fun r ψ27 y27 => y27 = x ∧ (∃ z27 : Int, r = some (0, z27) ∧ (hw sc (d + 1) 257 0 [(0, (2, 192)), (1, (0, ψ27 194 2))] [] ψ27 x (fun r ψ28 y28 => y28 = x ∧ (∃ z28 : Int, r = some (0, z28) ∧ (hw sc (d + 1) 219 0 [(0, (2, 192)), (1, (0, z27))] [] ψ28 x (fun r ψ29 y29 => y29 = x ∧ ψ28 = ψ29 ∧ (∃ z29 : Int, r = some (0, z29) ∧ (hi z29 ∧ (¬ z29 = 0 → hi z1 ∧ hi 2 ∧ (¬ z1 = 2 → Q none ψ28 x) ∧ (¬ (¬ z1 = 2) → hw sc (d + 1) 222 0 [(0, (2, 192))] [] ψ28 x (fun r ψ33 y33 => y33 = x ∧ ψ28 = ψ33 ∧ (∃ z33 : Int, r = some (0, z33) ∧ (hi z33 ∧ (¬ z33 = 0 → Q none ψ28 x) ∧ (¬ (¬ z33 = 0) → hw sc (d + 1) 223 0 [(0, (2, 192))] [] ψ28 x (fun r ψ36 y36 => y36 = x ∧ (r = none ∧ (Q none ψ36 x))))))))) ∧ (¬ (¬ z29 = 0) → hw sc (d + 1) 220 0 [(0, (2, 192)), (1, (0, z27)), (2, (0, z28))] [] ψ28 x (fun r ψ38 y38 => y38 = x ∧ (r = none ∧ (hi z1 ∧ hi 2 ∧ (¬ z1 = 2 → Q none ψ38 x) ∧ (¬ (¬ z1 = 2) → hw sc (d + 1) 222 0 [(0, (2, 192))] [] ψ38 x (fun r ψ41 y41 => y41 = x ∧ ψ38 = ψ41 ∧ (∃ z41 : Int, r = some (0, z41) ∧ (hi z41 ∧ (¬ z41 = 0 → Q none ψ38 x) ∧ (¬ (¬ z41 = 0) → hw sc (d + 1) 223 0 [(0, (2, 192))] [] ψ38 x (fun r ψ44 y44 => y44 = x ∧ (r = none ∧ (Q none ψ44 x))))))))))))))))))))))))) ∧ (¬ (¬ z1 = 0) → hi (ψ1 194 3) ∧ ((ψ1 194 3) ≤ 0 → hi z1 ∧ hi 1 ∧ (¬ z1 = 1 → hi z1 ∧ hi 2 ∧ (¬ z1 = 2 → Q none ψ1 x) ∧ (¬ (¬ z1 = 2) → hw sc (d + 1) 222 0 [(0, (2, 192))] [] ψ1 x (fun r ψ50 y50 => y50 = x ∧ ψ1 = ψ50 ∧ (∃ z50 : Int, r = some (0, z50) ∧ (hi z50 ∧ (¬ z50 = 0 → Q none ψ1 x) ∧ (¬ (¬ z50 = 0) → hw sc (d + 1) 223 0 [(0, (2, 192))] [] ψ1 x (fun r ψ53 y53 => y53 = x ∧ (r = none ∧ (Q none ψ53 x))))))))) ∧ (¬ (¬ z1 = 1) → hi (ψ1 194 3) ∧ ((ψ1 194 3) ≤ 0 → hi z1 ∧ hi 2 ∧ (¬ z1 = 2 → Q none ψ1 x) ∧ (¬ (¬ z1 = 2) → hw sc (d + 1) 222 0 [(0, (2, 192))] [] ψ1 x (fun r ψ58 y58 => y58 = x ∧ ψ1 = ψ58 ∧ (∃ z58 : Int, r = some (0, z58) ∧ (hi z58 ∧ (¬ z58 = 0 → Q none ψ1 x) ∧ (¬ (¬ z58 = 0) → hw sc (d + 1) 223 0 [(0, (2, 192))] [] ψ1 x (fun r ψ61 y61 => y61 = x ∧ (r = none ∧ (Q none ψ61 x))))))))) ∧ (¬ (ψ1 194 3) ≤ 0 → hi (ψ1 194 2) ∧ ((ψ1 194 2) ≤ 0 → hi z1 ∧ hi 2 ∧ (¬ z1 = 2 → Q none ψ1 x) ∧ (¬ (¬ z1 = 2) → hw sc (d + 1) 222 0 [(0, (2, 192))] [] ψ1 x (fun r ψ66 y66 => y66 = x ∧ ψ1 = ψ66 ∧ (∃ z66 : Int, r = some (0, z66) ∧ (hi z66 ∧ (¬ z66 = 0 → Q none ψ1 x) ∧ (¬ (¬ z66 = 0) → hw sc (d + 1) 223 0 [(0, (2, 192))] [] ψ1 x (fun r ψ69 y69 => y69 = x ∧ (r = none ∧ (Q none ψ69 x))))))))) ∧ (¬ (ψ1 194 2) ≤ 0 → hw sc (d + 1) 257 0 [(0, (2, 192)), (1, (0, ψ1 194 3))] [] ψ1 x (fun r ψ71 y71 => y71 = x ∧ (∃ z71 : Int, r = some (0, z71) ∧ (hw sc (d + 1) 257 0 [(0, (2, 192)), (1, (0, ψ71 194 2))] [] ψ71 x (fun r ψ72 y72 => y72 = x ∧ (∃ z72 : Int, r = some (0, z72) ∧ (hw sc (d + 1) 219 0 [(0, (2, 192)), (1, (0, z71))] [] ψ72 x (fun r ψ73 y73 => y73 = x ∧ ψ72 = ψ73 ∧ (∃ z73 : Int, r = some (0, z73) ∧ (hi z73 ∧ (¬ z73 = 0 → hi z1 ∧ hi 2 ∧ (¬ z1 = 2 → Q none ψ72 x) ∧ (¬ (¬ z1 = 2) → hw sc (d + 1) 222 0 [(0, (2, 192))] [] ψ72 x (fun r ψ77 y77 => y77 = x ∧ ψ72 = ψ77 ∧ (∃ z77 : Int, r = some (0, z77) ∧ (hi z77 ∧ (¬ z77 = 0 → Q none ψ72 x) ∧ (¬ (¬ z77 = 0) → hw sc (d + 1) 223 0 [(0, (2, 192))] [] ψ72 x (fun r ψ80 y80 => y80 = x ∧ (r = none ∧ (Q none ψ80 x))))))))) ∧ (¬ (¬ z73 = 0) → hw sc (d + 1) 220 0 [(0, (2, 192)), (1, (0, z71)), (2, (0, z72))] [] ψ72 x (fun r ψ82 y82 => y82 = x ∧ (r = none ∧ (hi z1 ∧ hi 2 ∧ (¬ z1 = 2 → Q none ψ82 x) ∧ (¬ (¬ z1 = 2) → hw sc (d + 1) 222 0 [(0, (2, 192))] [] ψ82 x (fun r ψ85 y85 => y85 = x ∧ ψ82 = ψ85 ∧ (∃ z85 : Int, r = some (0, z85) ∧ (hi z85 ∧ (¬ z85 = 0 → Q none ψ82 x) ∧ (¬ (¬ z85 = 0) → hw sc (d + 1) 223 0 [(0, (2, 192))] [] ψ82 x (fun r ψ88 y88 => y88 = x ∧ (r = none ∧ (Q none ψ88 x))))))))))))))))))))))))) ∧ (¬ (ψ1 194 3) ≤ 0 → hi (ψ1 194 1) ∧ ((ψ1 194 1) ≤ 0 → hi z1 ∧ hi 1 ∧ (¬ z1 = 1 → hi z1 ∧ hi 2 ∧ (¬ z1 = 2 → Q none ψ1 x) ∧ (¬ (¬ z1 = 2) → hw sc (d + 1) 222 0 [(0, (2, 192))] [] ψ1 x (fun r ψ94 y94 => y94 = x ∧ ψ1 = ψ94 ∧ (∃ z94 : Int, r = some (0, z94) ∧ (hi z94 ∧ (¬ z94 = 0 → Q none ψ1 x) ∧ (¬ (¬ z94 = 0) → hw sc (d + 1) 223 0 [(0, (2, 192))] [] ψ1 x (fun r ψ97 y97 => y97 = x ∧ (r = none ∧ (Q none ψ97 x))))))))) ∧ (¬ (¬ z1 = 1) → hi (ψ1 194 3) ∧ ((ψ1 194 3) ≤ 0 → hi z1 ∧ hi 2 ∧ (¬ z1 = 2 → Q none ψ1 x) ∧ (¬ (¬ z1 = 2) → hw sc (d + 1) 222 0 [(0, (2, 192))] [] ψ1 x (fun r ψ102 y102 => y102 = x ∧ ψ1 = ψ102 ∧ (∃ z102 : Int, r = some (0, z102) ∧ (hi z102 ∧ (¬ z102 = 0 → Q none ψ1 x) ∧ (¬ (¬ z102 = 0) → hw sc (d + 1) 223 0 [(0, (2, 192))] [] ψ1 x (fun r ψ105 y105 => y105 = x ∧ (r = none ∧ (Q none ψ105 x))))))))) ∧ (¬ (ψ1 194 3) ≤ 0 → hi (ψ1 194 2) ∧ ((ψ1 194 2) ≤ 0 → hi z1 ∧ hi 2 ∧ (¬ z1 = 2 → Q none ψ1 x) ∧ (¬ (¬ z1 = 2) → hw sc (d + 1) 222 0 [(0, (2, 192))] [] ψ1 x (fun r ψ110 y110 => y110 = x ∧ ψ1 = ψ110 ∧ (∃ z110 : Int, r = some (0, z110) ∧ (hi z110 ∧ (¬ z110 = 0 → Q none ψ1 x) ∧ (¬ (¬ z110 = 0) → hw sc (d + 1) 223 0 [(0, (2, 192))] [] ψ1 x (fun r ψ113 y113 => y113 = x ∧ (r = none ∧ (Q none ψ113 x))))))))) ∧ (¬ (ψ1 194 2) ≤ 0 → hw sc (d + 1) 257 0 [(0, (2, 192)), (1, (0, ψ1 194 3))] [] ψ1 x (fun r ψ115 y115 => y115 = x ∧ (∃ z115 : Int, r = some (0, z115) ∧ (hw sc (d + 1) 257 0 [(0, (2, 192)), (1, (0, ψ115 194 2))] [] ψ115 x (fun r ψ116 y116 => y116 = x ∧ (∃ z116 : Int, r = some (0, z116) ∧ (hw sc (d + 1) 219 0 [(0, (2, 192)), (1, (0, z115))] [] ψ116 x (fun r ψ117 y117 => y117 = x ∧ ψ116 = ψ117 ∧ (∃ z117 : Int, r = some (0, z117) ∧ (hi z117 ∧ (¬ z117 = 0 → hi z1 ∧ hi 2 ∧ (¬ z1 = 2 → Q none ψ116 x) ∧ (¬ (¬ z1 = 2) → hw sc (d + 1) 222 0 [(0, (2, 192))] [] ψ116 x (fun r ψ121 y121 => y121 = x ∧ ψ116 = ψ121 ∧ (∃ z121 : Int, r = some (0, z121) ∧ (hi z121 ∧ (¬ z121 = 0 → Q none ψ116 x) ∧ (¬ (¬ z121 = 0) → hw sc (d + 1) 223 0 [(0, (2, 192))] [] ψ116 x (fun r ψ124 y124 => y124 = x ∧ (r = none ∧ (Q none ψ124 x))))))))) ∧ (¬ (¬ z117 = 0) → hw sc (d + 1) 220 0 [(0, (2, 192)), (1, (0, z115)), (2, (0, z116))] [] ψ116 x (fun r ψ126 y126 => y126 = x ∧ (r = none ∧ (hi z1 ∧ hi 2 ∧ (¬ z1 = 2 → Q none ψ126 x) ∧ (¬ (¬ z1 = 2) → hw sc (d + 1) 222 0 [(0, (2, 192))] [] ψ126 x (fun r ψ129 y129 => y129 = x ∧ ψ126 = ψ129 ∧ (∃ z129 : Int, r = some (0, z129) ∧ (hi z129 ∧ (¬ z129 = 0 → Q none ψ126 x) ∧ (¬ (¬ z129 = 0) → hw sc (d + 1) 223 0 [(0, (2, 192))] [] ψ126 x (fun r ψ132 y132 => y132 = x ∧ (r = none ∧ (Q none ψ132 x))))))))))))))))))))))))) ∧ (¬ (ψ1 194 1) ≤ 0 → hw sc (d + 1) 257 0 [(0, (2, 192)), (1, (0, ψ1 194 3))] [] ψ1 x (fun r ψ134 y134 => y134 = x ∧ (∃ z134 : Int, r = some (0, z134) ∧ (hw sc (d + 1) 257 0 [(0, (2, 192)), (1, (0, ψ134 194 1))] [] ψ134 x (fun r ψ135 y135 => y135 = x ∧ (∃ z135 : Int, r = some (0, z135) ∧ (0 ≤ (112 + z134) ∧ (112 + z134) < 361 ∧ (hi (ψ135 194 ((112 + z134).toNat)) ∧ ((ψ135 194 ((112 + z134).toNat)) ≤ 0 → hw sc (d + 1) 215 0 [(0, (2, 192)), (1, (0, z134)), (2, (0, z135))] [] ψ135 x (fun r ψ138 y138 => y138 = x ∧ ψ135 = ψ138 ∧ (∃ z138 : Int, r = some (0, z138) ∧ (hi z138 ∧ (¬ z138 = 0 → hi z1 ∧ hi 1 ∧ (¬ z1 = 1 → hi z1 ∧ hi 2 ∧ (¬ z1 = 2 → Q none ψ135 x) ∧ (¬ (¬ z1 = 2) → hw sc (d + 1) 222 0 [(0, (2, 192))] [] ψ135 x (fun r ψ143 y143 => y143 = x ∧ ψ135 = ψ143 ∧ (∃ z143 : Int, r = some (0, z143) ∧ (hi z143 ∧ (¬ z143 = 0 → Q none ψ135 x) ∧ (¬ (¬ z143 = 0) → hw sc (d + 1) 223 0 [(0, (2, 192))] [] ψ135 x (fun r ψ146 y146 => y146 = x ∧ (r = none ∧ (Q none ψ146 x))))))))) ∧ (¬ (¬ z1 = 1) → hi (ψ135 194 3) ∧ ((ψ135 194 3) ≤ 0 → hi z1 ∧ hi 2 ∧ (¬ z1 = 2 → Q none ψ135 x) ∧ (¬ (¬ z1 = 2) → hw sc (d + 1) 222 0 [(0, (2, 192))] [] ψ135 x (fun r ψ151 y151 => y151 = x ∧ ψ135 = ψ151 ∧ (∃ z151 : Int, r = some (0, z151) ∧ (hi z151 ∧ (¬ z151 = 0 → Q none ψ135 x) ∧ (¬ (¬ z151 = 0) → hw sc (d + 1) 223 0 [(0, (2, 192))] [] ψ135 x (fun r ψ154 y154 => y154 = x ∧ (r = none ∧ (Q none ψ154 x))))))))) ∧ (¬ (ψ135 194 3) ≤ 0 → hi (ψ135 194 2) ∧ ((ψ135 194 2) ≤ 0 → hi z1 ∧ hi 2 ∧ (¬ z1 = 2 → Q none ψ135 x) ∧ (¬ (¬ z1 = 2) → hw sc (d + 1) 222 0 [(0, (2, 192))] [] ψ135 x (fun r ψ159 y159 => y159 = x ∧ ψ135 = ψ159 ∧ (∃ z159 : Int, r = some (0, z159) ∧ (hi z159 ∧ (¬ z159 = 0 → Q none ψ135 x) ∧ (¬ (¬ z159 = 0) → hw sc (d + 1) 223 0 [(0, (2, 192))] [] ψ135 x (fun r ψ162 y162 => y162 = x ∧ (r = none ∧ (Q none ψ162 x))))))))) ∧ (¬ (ψ135 194 2) ≤ 0 → hw sc (d + 1) 257 0 [(0, (2, 192)), (1, (0, ψ135 194 3))] [] ψ135 x (fun r ψ164 y164 => y164 = x ∧ (∃ z164 : Int, r = some (0, z164) ∧ (hw sc (d + 1) 257 0 [(0, (2, 192)), (1, (0, ψ164 194 2))] [] ψ164 x (fun r ψ165 y165 => y165 = x ∧ (∃ z165 : Int, r = some (0, z165) ∧ (hw sc (d + 1) 219 0 [(0, (2, 192)), (1, (0, z164))] [] ψ165 x (fun r ψ166 y166 => y166 = x ∧ ψ165 = ψ166 ∧ (∃ z166 : Int, r = some (0, z166) ∧ (hi z166 ∧ (¬ z166 = 0 → hi z1 ∧ hi 2 ∧ (¬ z1 = 2 → Q none ψ165 x) ∧ (¬ (¬ z1 = 2) → hw sc (d + 1) 222 0 [(0, (2, 192))] [] ψ165 x (fun r ψ170 y170 => y170 = x ∧ ψ165 = ψ170 ∧ (∃ z170 : Int, r = some (0, z170) ∧ (hi z170 ∧ (¬ z170 = 0 → Q none ψ165 x) ∧ (¬ (¬ z170 = 0) → hw sc (d + 1) 223 0 [(0, (2, 192))] [] ψ165 x (fun r ψ173 y173 => y173 = x ∧ (r = none ∧ (Q none ψ173 x))))))))) ∧ (¬ (¬ z166 = 0) → hw sc (d + 1) 220 0 [(0, (2, 192)), (1, (0, z164)), (2, (0, z165))] [] ψ165 x (fun r ψ175 y175 => y175 = x ∧ (r = none ∧ (hi z1 ∧ hi 2 ∧ (¬ z1 = 2 → Q none ψ175 x) ∧ (¬ (¬ z1 = 2) → hw sc (d + 1) 222 0 [(0, (2, 192))] [] ψ175 x (fun r ψ178 y178 => y178 = x ∧ ψ175 = ψ178 ∧ (∃ z178 : Int, r = some (0, z178) ∧ (hi z178 ∧ (¬ z178 = 0 → Q none ψ175 x) ∧ (¬ (¬ z178 = 0) → hw sc (d + 1) 223 0 [(0, (2, 192))] [] ψ175 x (fun r ψ181 y181 => y181 = x ∧ (r = none ∧ (Q none ψ181 x))))))))))))))))))))))))) ∧ (¬ (¬ z138 = 0) → 0 ≤ (112 + z134) ∧ (112 + z134) < 361 ∧ (hi z1 ∧ hi 1 ∧ (¬ z1 = 1 → hi z1 ∧ hi 2 ∧ (¬ z1 = 2 → Q none (hf_up ψ135 194 ((112 + z134).toNat) (z135 + 1)) x) ∧ (¬ (¬ z1 = 2) → hw sc (d + 1) 222 0 [(0, (2, 192))] [] (hf_up ψ135 194 ((112 + z134).toNat) (z135 + 1)) x (fun r ψ187 y187 => y187 = x ∧ (hf_up ψ135 194 ((112 + z134).toNat) (z135 + 1)) = ψ187 ∧ (∃ z187 : Int, r = some (0, z187) ∧ (hi z187 ∧ (¬ z187 = 0 → Q none (hf_up ψ135 194 ((112 + z134).toNat) (z135 + 1)) x) ∧ (¬ (¬ z187 = 0) → hw sc (d + 1) 223 0 [(0, (2, 192))] [] (hf_up ψ135 194 ((112 + z134).toNat) (z135 + 1)) x (fun r ψ190 y190 => y190 = x ∧ (r = none ∧ (Q none ψ190 x))))))))) ∧ (¬ (¬ z1 = 1) → hi ((hf_up ψ135 194 ((112 + z134).toNat) (z135 + 1)) 194 3) ∧ (((hf_up ψ135 194 ((112 + z134).toNat) (z135 + 1)) 194 3) ≤ 0 → hi z1 ∧ hi 2 ∧ (¬ z1 = 2 → Q none (hf_up ψ135 194 ((112 + z134).toNat) (z135 + 1)) x) ∧ (¬ (¬ z1 = 2) → hw sc (d + 1) 222 0 [(0, (2, 192))] [] (hf_up ψ135 194 ((112 + z134).toNat) (z135 + 1)) x (fun r ψ195 y195 => y195 = x ∧ (hf_up ψ135 194 ((112 + z134).toNat) (z135 + 1)) = ψ195 ∧ (∃ z195 : Int, r = some (0, z195) ∧ (hi z195 ∧ (¬ z195 = 0 → Q none (hf_up ψ135 194 ((112 + z134).toNat) (z135 + 1)) x) ∧ (¬ (¬ z195 = 0) → hw sc (d + 1) 223 0 [(0, (2, 192))] [] (hf_up ψ135 194 ((112 + z134).toNat) (z135 + 1)) x (fun r ψ198 y198 => y198 = x ∧ (r = none ∧ (Q none ψ198 x))))))))) ∧ (¬ ((hf_up ψ135 194 ((112 + z134).toNat) (z135 + 1)) 194 3) ≤ 0 → hi ((hf_up ψ135 194 ((112 + z134).toNat) (z135 + 1)) 194 2) ∧ (((hf_up ψ135 194 ((112 + z134).toNat) (z135 + 1)) 194 2) ≤ 0 → hi z1 ∧ hi 2 ∧ (¬ z1 = 2 → Q none (hf_up ψ135 194 ((112 + z134).toNat) (z135 + 1)) x) ∧ (¬ (¬ z1 = 2) → hw sc (d + 1) 222 0 [(0, (2, 192))] [] (hf_up ψ135 194 ((112 + z134).toNat) (z135 + 1)) x (fun r ψ203 y203 => y203 = x ∧ (hf_up ψ135 194 ((112 + z134).toNat) (z135 + 1)) = ψ203 ∧ (∃ z203 : Int, r = some (0, z203) ∧ (hi z203 ∧ (¬ z203 = 0 → Q none (hf_up ψ135 194 ((112 + z134).toNat) (z135 + 1)) x) ∧ (¬ (¬ z203 = 0) → hw sc (d + 1) 223 0 [(0, (2, 192))] [] (hf_up ψ135 194 ((112 + z134).toNat) (z135 + 1)) x (fun r ψ206 y206 => y206 = x ∧ (r = none ∧ (Q none ψ206 x))))))))) ∧ (¬ ((hf_up ψ135 194 ((112 + z134).toNat) (z135 + 1)) 194 2) ≤ 0 → hw sc (d + 1) 257 0 [(0, (2, 192)), (1, (0, (hf_up ψ135 194 ((112 + z134).toNat) (z135 + 1)) 194 3))] [] (hf_up ψ135 194 ((112 + z134).toNat) (z135 + 1)) x (fun r ψ208 y208 => y208 = x ∧ (∃ z208 : Int, r = some (0, z208) ∧ (hw sc (d + 1) 257 0 [(0, (2, 192)), (1, (0, ψ208 194 2))] [] ψ208 x (fun r ψ209 y209 => y209 = x ∧ (∃ z209 : Int, r = some (0, z209) ∧ (hw sc (d + 1) 219 0 [(0, (2, 192)), (1, (0, z208))] [] ψ209 x (fun r ψ210 y210 => y210 = x ∧ ψ209 = ψ210 ∧ (∃ z210 : Int, r = some (0, z210) ∧ (hi z210 ∧ (¬ z210 = 0 → hi z1 ∧ hi 2 ∧ (¬ z1 = 2 → Q none ψ209 x) ∧ (¬ (¬ z1 = 2) → hw sc (d + 1) 222 0 [(0, (2, 192))] [] ψ209 x (fun r ψ214 y214 => y214 = x ∧ ψ209 = ψ214 ∧ (∃ z214 : Int, r = some (0, z214) ∧ (hi z214 ∧ (¬ z214 = 0 → Q none ψ209 x) ∧ (¬ (¬ z214 = 0) → hw sc (d + 1) 223 0 [(0, (2, 192))] [] ψ209 x (fun r ψ217 y217 => y217 = x ∧ (r = none ∧ (Q none ψ217 x))))))))) ∧ (¬ (¬ z210 = 0) → hw sc (d + 1) 220 0 [(0, (2, 192)), (1, (0, z208)), (2, (0, z209))] [] ψ209 x (fun r ψ219 y219 => y219 = x ∧ (r = none ∧ (hi z1 ∧ hi 2 ∧ (¬ z1 = 2 → Q none ψ219 x) ∧ (¬ (¬ z1 = 2) → hw sc (d + 1) 222 0 [(0, (2, 192))] [] ψ219 x (fun r ψ222 y222 => y222 = x ∧ ψ219 = ψ222 ∧ (∃ z222 : Int, r = some (0, z222) ∧ (hi z222 ∧ (¬ z222 = 0 → Q none ψ219 x) ∧ (¬ (¬ z222 = 0) → hw sc (d + 1) 223 0 [(0, (2, 192))] [] ψ219 x (fun r ψ225 y225 => y225 = x ∧ (r = none ∧ (Q none ψ225 x)))))))))))))))))))))))))))))) ∧ (¬ (ψ135 194 ((112 + z134).toNat)) ≤ 0 → 0 ≤ (112 + z134) ∧ (112 + z134) < 361 ∧ (hi z1 ∧ hi 1 ∧ (¬ z1 = 1 → hi z1 ∧ hi 2 ∧ (¬ z1 = 2 → Q none (hf_up ψ135 194 ((112 + z134).toNat) 0) x) ∧ (¬ (¬ z1 = 2) → hw sc (d + 1) 222 0 [(0, (2, 192))] [] (hf_up ψ135 194 ((112 + z134).toNat) 0) x (fun r ψ231 y231 => y231 = x ∧ (hf_up ψ135 194 ((112 + z134).toNat) 0) = ψ231 ∧ (∃ z231 : Int, r = some (0, z231) ∧ (hi z231 ∧ (¬ z231 = 0 → Q none (hf_up ψ135 194 ((112 + z134).toNat) 0) x) ∧ (¬ (¬ z231 = 0) → hw sc (d + 1) 223 0 [(0, (2, 192))] [] (hf_up ψ135 194 ((112 + z134).toNat) 0) x (fun r ψ234 y234 => y234 = x ∧ (r = none ∧ (Q none ψ234 x))))))))) ∧ (¬ (¬ z1 = 1) → hi ((hf_up ψ135 194 ((112 + z134).toNat) 0) 194 3) ∧ (((hf_up ψ135 194 ((112 + z134).toNat) 0) 194 3) ≤ 0 → hi z1 ∧ hi 2 ∧ (¬ z1 = 2 → Q none (hf_up ψ135 194 ((112 + z134).toNat) 0) x) ∧ (¬ (¬ z1 = 2) → hw sc (d + 1) 222 0 [(0, (2, 192))] [] (hf_up ψ135 194 ((112 + z134).toNat) 0) x (fun r ψ239 y239 => y239 = x ∧ (hf_up ψ135 194 ((112 + z134).toNat) 0) = ψ239 ∧ (∃ z239 : Int, r = some (0, z239) ∧ (hi z239 ∧ (¬ z239 = 0 → Q none (hf_up ψ135 194 ((112 + z134).toNat) 0) x) ∧ (¬ (¬ z239 = 0) → hw sc (d + 1) 223 0 [(0, (2, 192))] [] (hf_up ψ135 194 ((112 + z134).toNat) 0) x (fun r ψ242 y242 => y242 = x ∧ (r = none ∧ (Q none ψ242 x))))))))) ∧ (¬ ((hf_up ψ135 194 ((112 + z134).toNat) 0) 194 3) ≤ 0 → hi ((hf_up ψ135 194 ((112 + z134).toNat) 0) 194 2) ∧ (((hf_up ψ135 194 ((112 + z134).toNat) 0) 194 2) ≤ 0 → hi z1 ∧ hi 2 ∧ (¬ z1 = 2 → Q none (hf_up ψ135 194 ((112 + z134).toNat) 0) x) ∧ (¬ (¬ z1 = 2) → hw sc (d + 1) 222 0 [(0, (2, 192))] [] (hf_up ψ135 194 ((112 + z134).toNat) 0) x (fun r ψ247 y247 => y247 = x ∧ (hf_up ψ135 194 ((112 + z134).toNat) 0) = ψ247 ∧ (∃ z247 : Int, r = some (0, z247) ∧ (hi z247 ∧ (¬ z247 = 0 → Q none (hf_up ψ135 194 ((112 + z134).toNat) 0) x) ∧ (¬ (¬ z247 = 0) → hw sc (d + 1) 223 0 [(0, (2, 192))] [] (hf_up ψ135 194 ((112 + z134).toNat) 0) x (fun r ψ250 y250 => y250 = x ∧ (r = none ∧ (Q none ψ250 x))))))))) ∧ (¬ ((hf_up ψ135 194 ((112 + z134).toNat) 0) 194 2) ≤ 0 → hw sc (d + 1) 257 0 [(0, (2, 192)), (1, (0, (hf_up ψ135 194 ((112 + z134).toNat) 0) 194 3))] [] (hf_up ψ135 194 ((112 + z134).toNat) 0) x (fun r ψ252 y252 => y252 = x ∧ (∃ z252 : Int, r = some (0, z252) ∧ (hw sc (d + 1) 257 0 [(0, (2, 192)), (1, (0, ψ252 194 2))] [] ψ252 x (fun r ψ253 y253 => y253 = x ∧ (∃ z253 : Int, r = some (0, z253) ∧ (hw sc (d + 1) 219 0 [(0, (2, 192)), (1, (0, z252))] [] ψ253 x (fun r ψ254 y254 => y254 = x ∧ ψ253 = ψ254 ∧ (∃ z254 : Int, r = some (0, z254) ∧ (hi z254 ∧ (¬ z254 = 0 → hi z1 ∧ hi 2 ∧ (¬ z1 = 2 → Q none ψ253 x) ∧ (¬ (¬ z1 = 2) → hw sc (d + 1) 222 0 [(0, (2, 192))] [] ψ253 x (fun r ψ258 y258 => y258 = x ∧ ψ253 = ψ258 ∧ (∃ z258 : Int, r = some (0, z258) ∧ (hi z258 ∧ (¬ z258 = 0 → Q none ψ253 x) ∧ (¬ (¬ z258 = 0) → hw sc (d + 1) 223 0 [(0, (2, 192))] [] ψ253 x (fun r ψ261 y261 => y261 = x ∧ (r = none ∧ (Q none ψ261 x))))))))) ∧ (¬ (¬ z254 = 0) → hw sc (d + 1) 220 0 [(0, (2, 192)), (1, (0, z252)), (2, (0, z253))] [] ψ253 x (fun r ψ263 y263 => y263 = x ∧ (r = none ∧ (hi z1 ∧ hi 2 ∧ (¬ z1 = 2 → Q none ψ263 x) ∧ (¬ (¬ z1 = 2) → hw sc (d + 1) 222 0 [(0, (2, 192))] [] ψ263 x (fun r ψ266 y266 => y266 = x ∧ ψ263 = ψ266 ∧ (∃ z266 : Int, r = some (0, z266) ∧ (hi z266 ∧ (¬ z266 = 0 → Q none ψ263 x) ∧ (¬ (¬ z266 = 0) → hw sc (d + 1) 223 0 [(0, (2, 192))] [] ψ263 x (fun r ψ269 y269 => y269 = x ∧ (r = none ∧ (Q none ψ269 x)))))))))))))))))))))))))))))))))))))))) :
    hw sc (d + 2) 256 0 [(0, (2, 192))] [] φ x Q := by
  refine hw_ald (b := 0) (e := 0) (by decide +kernel) rfl (by decide) ?_
  refine hw_k (c := 12) (b := 1) (e := 2) (by decide +kernel) ?_
  refine hr_call (a0 := 22) (b := 257) (e := 2) (nl := 2) (As := [(0, 12)]) (R := []) 192 rfl (by decide +kernel) rfl rfl (Nat.le_of_ble_eq_true rfl) (Nat.le_of_ble_eq_true rfl) ?_
  refine hw_mono H ?_
  rintro r ψ1 y1 ⟨hyx, z1, hr, H⟩
  subst hyx
  subst hr
  refine ⟨hne0, ?_⟩
  show hw sc (d + 2) 256 6 [(0, (2, 192))] [(0, z1)] ψ1 y1 Q
  refine hw_st (L' := (jm_st1 [(0, (2, 192))] 1 (0, z1))) (b := 1) (e := 0) (by decide +kernel) rfl ?_
  refine hw_ld (b := 1) (e := 0) (by decide +kernel) get_st1e ?_
  obtain ⟨hz2, ht2, hf2⟩ := H
  refine hw_if (a0 := 0) (b := 1) (e := 97) (by decide +kernel) hz2 (fun q => ?_) (fun q => ?_)
  · have H := ht2 q
    refine hw_ld (b := 1) (e := 0) (by decide +kernel) get_st1e ?_
    refine hw_k (c := 1) (b := 0) (e := 1) (by decide +kernel) ?_
    obtain ⟨hz3, hy3, ht3, hf3⟩ := H
    refine hw_if2 (a0 := 0) (b := 1) (e := 156) (by decide +kernel) hz3 hy3 (fun q => ?_) (fun q => ?_)
    · have H := ht3 q
      refine hw_ld (b := 1) (e := 0) (by decide +kernel) get_st1e ?_
      refine hw_k (c := 2) (b := 0) (e := 1) (by decide +kernel) ?_
      obtain ⟨hz4, hy4, ht4, hf4⟩ := H
      refine hw_if2 (a0 := 0) (b := 1) (e := 172) (by decide +kernel) hz4 hy4 (fun q => ?_) (fun q => ?_)
      · have H := ht4 q
        exact hw_vret (a0 := 0) (e := 0) (by decide +kernel) H
      · have H := hf4 q
        refine hw_ald (b := 0) (e := 0) (by decide +kernel) (get_st1 rfl (by decide) (fun q => tg2 q.2)) (by decide) ?_
        refine hr_call (a0 := 22) (b := 222) (e := 1) (nl := 1) (As := []) (R := []) 192 rfl (by decide +kernel) rfl rfl (Nat.le_of_ble_eq_true rfl) (Nat.le_of_ble_eq_true rfl) ?_
        refine hw_mono H ?_
        rintro r ψ6 y6 ⟨hyx, hψx, z6, hr, H⟩
        subst hyx
        subst hψx
        subst hr
        refine ⟨hne0, ?_⟩
        show hw sc (d + 2) 256 165 (jm_st1 [(0, (2, 192))] 1 (0, z1)) [(0, z6)] ψ1 y6 Q
        obtain ⟨hz7, ht7, hf7⟩ := H
        refine hw_if (a0 := 0) (b := 1) (e := 172) (by decide +kernel) hz7 (fun q => ?_) (fun q => ?_)
        · have H := ht7 q
          exact hw_vret (a0 := 0) (e := 0) (by decide +kernel) H
        · have H := hf7 q
          refine hw_ald (b := 0) (e := 0) (by decide +kernel) (get_st1 rfl (by decide) (fun q => tg2 q.2)) (by decide) ?_
          refine hr_call (a0 := 22) (b := 223) (e := 1) (nl := 2) (As := []) (R := []) 192 rfl (by decide +kernel) rfl rfl (Nat.le_of_ble_eq_true rfl) (Nat.le_of_ble_eq_true rfl) ?_
          refine hw_mono H ?_
          rintro r ψ9 y9 ⟨hyx, hr, H⟩
          subst hyx
          subst hr
          refine ⟨hnen, ?_⟩
          show hw sc (d + 2) 256 172 (jm_st1 [(0, (2, 192))] 1 (0, z1)) [] ψ9 y9 Q
          exact hw_vret (a0 := 0) (e := 0) (by decide +kernel) H
    · have H := hf3 q
      refine hw_ald (b := 0) (e := 0) (by decide +kernel) (get_st1 rfl (by decide) (fun q => tg2 q.2)) (by decide) ?_
      refine hr_gr (w := 194) (b := 12) (e := 6) 192 rfl (by decide +kernel) ?_
      refine hw_k (c := 3) (b := 0) (e := 1) (by decide +kernel) ?_
      refine hr_al (b := 0) (a0 := 0) (e := 0) (n := 361) (w := ψ1 194 3) 194 rfl (by decide +kernel) (by decide) (by decide) (by decide) rfl ?_
      obtain ⟨hz11, ht11, hf11⟩ := H
      refine hw_if (a0 := 0) (b := 5) (e := 156) (by decide +kernel) hz11 (fun q => ?_) (fun q => ?_)
      · have H := ht11 q
        refine hw_ld (b := 1) (e := 0) (by decide +kernel) get_st1e ?_
        refine hw_k (c := 2) (b := 0) (e := 1) (by decide +kernel) ?_
        obtain ⟨hz12, hy12, ht12, hf12⟩ := H
        refine hw_if2 (a0 := 0) (b := 1) (e := 172) (by decide +kernel) hz12 hy12 (fun q => ?_) (fun q => ?_)
        · have H := ht12 q
          exact hw_vret (a0 := 0) (e := 0) (by decide +kernel) H
        · have H := hf12 q
          refine hw_ald (b := 0) (e := 0) (by decide +kernel) (get_st1 rfl (by decide) (fun q => tg2 q.2)) (by decide) ?_
          refine hr_call (a0 := 22) (b := 222) (e := 1) (nl := 1) (As := []) (R := []) 192 rfl (by decide +kernel) rfl rfl (Nat.le_of_ble_eq_true rfl) (Nat.le_of_ble_eq_true rfl) ?_
          refine hw_mono H ?_
          rintro r ψ14 y14 ⟨hyx, hψx, z14, hr, H⟩
          subst hyx
          subst hψx
          subst hr
          refine ⟨hne0, ?_⟩
          show hw sc (d + 2) 256 165 (jm_st1 [(0, (2, 192))] 1 (0, z1)) [(0, z14)] ψ1 y14 Q
          obtain ⟨hz15, ht15, hf15⟩ := H
          refine hw_if (a0 := 0) (b := 1) (e := 172) (by decide +kernel) hz15 (fun q => ?_) (fun q => ?_)
          · have H := ht15 q
            exact hw_vret (a0 := 0) (e := 0) (by decide +kernel) H
          · have H := hf15 q
            refine hw_ald (b := 0) (e := 0) (by decide +kernel) (get_st1 rfl (by decide) (fun q => tg2 q.2)) (by decide) ?_
            refine hr_call (a0 := 22) (b := 223) (e := 1) (nl := 2) (As := []) (R := []) 192 rfl (by decide +kernel) rfl rfl (Nat.le_of_ble_eq_true rfl) (Nat.le_of_ble_eq_true rfl) ?_
            refine hw_mono H ?_
            rintro r ψ17 y17 ⟨hyx, hr, H⟩
            subst hyx
            subst hr
            refine ⟨hnen, ?_⟩
            show hw sc (d + 2) 256 172 (jm_st1 [(0, (2, 192))] 1 (0, z1)) [] ψ17 y17 Q
            exact hw_vret (a0 := 0) (e := 0) (by decide +kernel) H
      · have H := hf11 q
        refine hw_ald (b := 0) (e := 0) (by decide +kernel) (get_st1 rfl (by decide) (fun q => tg2 q.2)) (by decide) ?_
        refine hr_gr (w := 194) (b := 12) (e := 6) 192 rfl (by decide +kernel) ?_
        refine hw_k (c := 2) (b := 0) (e := 1) (by decide +kernel) ?_
        refine hr_al (b := 0) (a0 := 0) (e := 0) (n := 361) (w := ψ1 194 2) 194 rfl (by decide +kernel) (by decide) (by decide) (by decide) rfl ?_
        obtain ⟨hz19, ht19, hf19⟩ := H
        refine hw_if (a0 := 0) (b := 5) (e := 156) (by decide +kernel) hz19 (fun q => ?_) (fun q => ?_)
        · have H := ht19 q
          refine hw_ld (b := 1) (e := 0) (by decide +kernel) get_st1e ?_
          refine hw_k (c := 2) (b := 0) (e := 1) (by decide +kernel) ?_
          obtain ⟨hz20, hy20, ht20, hf20⟩ := H
          refine hw_if2 (a0 := 0) (b := 1) (e := 172) (by decide +kernel) hz20 hy20 (fun q => ?_) (fun q => ?_)
          · have H := ht20 q
            exact hw_vret (a0 := 0) (e := 0) (by decide +kernel) H
          · have H := hf20 q
            refine hw_ald (b := 0) (e := 0) (by decide +kernel) (get_st1 rfl (by decide) (fun q => tg2 q.2)) (by decide) ?_
            refine hr_call (a0 := 22) (b := 222) (e := 1) (nl := 1) (As := []) (R := []) 192 rfl (by decide +kernel) rfl rfl (Nat.le_of_ble_eq_true rfl) (Nat.le_of_ble_eq_true rfl) ?_
            refine hw_mono H ?_
            rintro r ψ22 y22 ⟨hyx, hψx, z22, hr, H⟩
            subst hyx
            subst hψx
            subst hr
            refine ⟨hne0, ?_⟩
            show hw sc (d + 2) 256 165 (jm_st1 [(0, (2, 192))] 1 (0, z1)) [(0, z22)] ψ1 y22 Q
            obtain ⟨hz23, ht23, hf23⟩ := H
            refine hw_if (a0 := 0) (b := 1) (e := 172) (by decide +kernel) hz23 (fun q => ?_) (fun q => ?_)
            · have H := ht23 q
              exact hw_vret (a0 := 0) (e := 0) (by decide +kernel) H
            · have H := hf23 q
              refine hw_ald (b := 0) (e := 0) (by decide +kernel) (get_st1 rfl (by decide) (fun q => tg2 q.2)) (by decide) ?_
              refine hr_call (a0 := 22) (b := 223) (e := 1) (nl := 2) (As := []) (R := []) 192 rfl (by decide +kernel) rfl rfl (Nat.le_of_ble_eq_true rfl) (Nat.le_of_ble_eq_true rfl) ?_
              refine hw_mono H ?_
              rintro r ψ25 y25 ⟨hyx, hr, H⟩
              subst hyx
              subst hr
              refine ⟨hnen, ?_⟩
              show hw sc (d + 2) 256 172 (jm_st1 [(0, (2, 192))] 1 (0, z1)) [] ψ25 y25 Q
              exact hw_vret (a0 := 0) (e := 0) (by decide +kernel) H
        · have H := hf19 q
          refine hw_ald (b := 0) (e := 0) (by decide +kernel) (get_st1 rfl (by decide) (fun q => tg2 q.2)) (by decide) ?_
          refine hw_ald (b := 0) (e := 0) (by decide +kernel) (get_st1 rfl (by decide) (fun q => tg2 q.2)) (by decide) ?_
          refine hr_gr (w := 194) (b := 12) (e := 6) 192 rfl (by decide +kernel) ?_
          refine hw_k (c := 3) (b := 0) (e := 1) (by decide +kernel) ?_
          refine hr_al (b := 0) (a0 := 0) (e := 0) (n := 361) (w := ψ1 194 3) 194 rfl (by decide +kernel) (by decide) (by decide) (by decide) rfl ?_
          refine hr_call (a0 := 22) (b := 257) (e := 2) (nl := 2) (As := [(0, ψ1 194 3)]) (R := []) 192 rfl (by decide +kernel) rfl rfl (Nat.le_of_ble_eq_true rfl) (Nat.le_of_ble_eq_true rfl) ?_
          refine hw_mono H ?_
          rintro r ψ27 y27 ⟨hyx, z27, hr, H⟩
          subst hyx
          subst hr
          refine ⟨hne0, ?_⟩
          show hw sc (d + 2) 256 130 (jm_st1 [(0, (2, 192))] 1 (0, z1)) [(0, z27)] ψ27 y27 Q
          refine hw_st (L' := (jm_st1 (jm_st1 [(0, (2, 192))] 1 (0, z1)) 2 (0, z27))) (b := 2) (e := 0) (by decide +kernel) rfl ?_
          refine hw_ald (b := 0) (e := 0) (by decide +kernel) (get_st1 (get_st1 rfl (by decide) (fun q => tg2 q.2)) (by decide) (fun q => absurd q.1 (by decide))) (by decide) ?_
          refine hw_ald (b := 0) (e := 0) (by decide +kernel) (get_st1 (get_st1 rfl (by decide) (fun q => tg2 q.2)) (by decide) (fun q => absurd q.1 (by decide))) (by decide) ?_
          refine hr_gr (w := 194) (b := 12) (e := 6) 192 rfl (by decide +kernel) ?_
          refine hw_k (c := 2) (b := 0) (e := 1) (by decide +kernel) ?_
          refine hr_al (b := 0) (a0 := 0) (e := 0) (n := 361) (w := ψ27 194 2) 194 rfl (by decide +kernel) (by decide) (by decide) (by decide) rfl ?_
          refine hr_call (a0 := 22) (b := 257) (e := 2) (nl := 2) (As := [(0, ψ27 194 2)]) (R := []) 192 rfl (by decide +kernel) rfl rfl (Nat.le_of_ble_eq_true rfl) (Nat.le_of_ble_eq_true rfl) ?_
          refine hw_mono H ?_
          rintro r ψ28 y28 ⟨hyx, z28, hr, H⟩
          subst hyx
          subst hr
          refine ⟨hne0, ?_⟩
          show hw sc (d + 2) 256 141 (jm_st1 (jm_st1 [(0, (2, 192))] 1 (0, z1)) 2 (0, z27)) [(0, z28)] ψ28 y28 Q
          refine hw_st (L' := (jm_st1 (jm_st1 (jm_st1 [(0, (2, 192))] 1 (0, z1)) 2 (0, z27)) 3 (0, z28))) (b := 3) (e := 0) (by decide +kernel) rfl ?_
          refine hw_ald (b := 0) (e := 0) (by decide +kernel) (get_st1 (get_st1 (get_st1 rfl (by decide) (fun q => tg2 q.2)) (by decide) (fun q => absurd q.1 (by decide))) (by decide) (fun q => absurd q.1 (by decide))) (by decide) ?_
          refine hw_ld (b := 2) (e := 0) (by decide +kernel) (get_st1 get_st1e (by decide) (fun q => tg0 q.2)) ?_
          refine hr_call (a0 := 22) (b := 219) (e := 2) (nl := 2) (As := [(0, z27)]) (R := []) 192 rfl (by decide +kernel) rfl rfl (Nat.le_of_ble_eq_true rfl) (Nat.le_of_ble_eq_true rfl) ?_
          refine hw_mono H ?_
          rintro r ψ29 y29 ⟨hyx, hψx, z29, hr, H⟩
          subst hyx
          subst hψx
          subst hr
          refine ⟨hne0, ?_⟩
          show hw sc (d + 2) 256 147 (jm_st1 (jm_st1 (jm_st1 [(0, (2, 192))] 1 (0, z1)) 2 (0, z27)) 3 (0, z28)) [(0, z29)] ψ28 y29 Q
          obtain ⟨hz30, ht30, hf30⟩ := H
          refine hw_if (a0 := 0) (b := 1) (e := 156) (by decide +kernel) hz30 (fun q => ?_) (fun q => ?_)
          · have H := ht30 q
            refine hw_ld (b := 1) (e := 0) (by decide +kernel) (get_st1 (get_st1 get_st1e (by decide) (fun q => tg0 q.2)) (by decide) (fun q => absurd q.1 (by decide))) ?_
            refine hw_k (c := 2) (b := 0) (e := 1) (by decide +kernel) ?_
            obtain ⟨hz31, hy31, ht31, hf31⟩ := H
            refine hw_if2 (a0 := 0) (b := 1) (e := 172) (by decide +kernel) hz31 hy31 (fun q => ?_) (fun q => ?_)
            · have H := ht31 q
              exact hw_vret (a0 := 0) (e := 0) (by decide +kernel) H
            · have H := hf31 q
              refine hw_ald (b := 0) (e := 0) (by decide +kernel) (get_st1 (get_st1 (get_st1 rfl (by decide) (fun q => tg2 q.2)) (by decide) (fun q => absurd q.1 (by decide))) (by decide) (fun q => absurd q.1 (by decide))) (by decide) ?_
              refine hr_call (a0 := 22) (b := 222) (e := 1) (nl := 1) (As := []) (R := []) 192 rfl (by decide +kernel) rfl rfl (Nat.le_of_ble_eq_true rfl) (Nat.le_of_ble_eq_true rfl) ?_
              refine hw_mono H ?_
              rintro r ψ33 y33 ⟨hyx, hψx, z33, hr, H⟩
              subst hyx
              subst hψx
              subst hr
              refine ⟨hne0, ?_⟩
              show hw sc (d + 2) 256 165 (jm_st1 (jm_st1 (jm_st1 [(0, (2, 192))] 1 (0, z1)) 2 (0, z27)) 3 (0, z28)) [(0, z33)] ψ28 y33 Q
              obtain ⟨hz34, ht34, hf34⟩ := H
              refine hw_if (a0 := 0) (b := 1) (e := 172) (by decide +kernel) hz34 (fun q => ?_) (fun q => ?_)
              · have H := ht34 q
                exact hw_vret (a0 := 0) (e := 0) (by decide +kernel) H
              · have H := hf34 q
                refine hw_ald (b := 0) (e := 0) (by decide +kernel) (get_st1 (get_st1 (get_st1 rfl (by decide) (fun q => tg2 q.2)) (by decide) (fun q => absurd q.1 (by decide))) (by decide) (fun q => absurd q.1 (by decide))) (by decide) ?_
                refine hr_call (a0 := 22) (b := 223) (e := 1) (nl := 2) (As := []) (R := []) 192 rfl (by decide +kernel) rfl rfl (Nat.le_of_ble_eq_true rfl) (Nat.le_of_ble_eq_true rfl) ?_
                refine hw_mono H ?_
                rintro r ψ36 y36 ⟨hyx, hr, H⟩
                subst hyx
                subst hr
                refine ⟨hnen, ?_⟩
                show hw sc (d + 2) 256 172 (jm_st1 (jm_st1 (jm_st1 [(0, (2, 192))] 1 (0, z1)) 2 (0, z27)) 3 (0, z28)) [] ψ36 y36 Q
                exact hw_vret (a0 := 0) (e := 0) (by decide +kernel) H
          · have H := hf30 q
            refine hw_ald (b := 0) (e := 0) (by decide +kernel) (get_st1 (get_st1 (get_st1 rfl (by decide) (fun q => tg2 q.2)) (by decide) (fun q => absurd q.1 (by decide))) (by decide) (fun q => absurd q.1 (by decide))) (by decide) ?_
            refine hw_ld (b := 2) (e := 0) (by decide +kernel) (get_st1 get_st1e (by decide) (fun q => tg0 q.2)) ?_
            refine hw_ld (b := 3) (e := 0) (by decide +kernel) get_st1e ?_
            refine hr_call (a0 := 22) (b := 220) (e := 3) (nl := 3) (As := [(0, z27), (0, z28)]) (R := []) 192 rfl (by decide +kernel) rfl rfl (Nat.le_of_ble_eq_true rfl) (Nat.le_of_ble_eq_true rfl) ?_
            refine hw_mono H ?_
            rintro r ψ38 y38 ⟨hyx, hr, H⟩
            subst hyx
            subst hr
            refine ⟨hnen, ?_⟩
            show hw sc (d + 2) 256 156 (jm_st1 (jm_st1 (jm_st1 [(0, (2, 192))] 1 (0, z1)) 2 (0, z27)) 3 (0, z28)) [] ψ38 y38 Q
            refine hw_ld (b := 1) (e := 0) (by decide +kernel) (get_st1 (get_st1 get_st1e (by decide) (fun q => tg0 q.2)) (by decide) (fun q => absurd q.1 (by decide))) ?_
            refine hw_k (c := 2) (b := 0) (e := 1) (by decide +kernel) ?_
            obtain ⟨hz39, hy39, ht39, hf39⟩ := H
            refine hw_if2 (a0 := 0) (b := 1) (e := 172) (by decide +kernel) hz39 hy39 (fun q => ?_) (fun q => ?_)
            · have H := ht39 q
              exact hw_vret (a0 := 0) (e := 0) (by decide +kernel) H
            · have H := hf39 q
              refine hw_ald (b := 0) (e := 0) (by decide +kernel) (get_st1 (get_st1 (get_st1 rfl (by decide) (fun q => tg2 q.2)) (by decide) (fun q => absurd q.1 (by decide))) (by decide) (fun q => absurd q.1 (by decide))) (by decide) ?_
              refine hr_call (a0 := 22) (b := 222) (e := 1) (nl := 1) (As := []) (R := []) 192 rfl (by decide +kernel) rfl rfl (Nat.le_of_ble_eq_true rfl) (Nat.le_of_ble_eq_true rfl) ?_
              refine hw_mono H ?_
              rintro r ψ41 y41 ⟨hyx, hψx, z41, hr, H⟩
              subst hyx
              subst hψx
              subst hr
              refine ⟨hne0, ?_⟩
              show hw sc (d + 2) 256 165 (jm_st1 (jm_st1 (jm_st1 [(0, (2, 192))] 1 (0, z1)) 2 (0, z27)) 3 (0, z28)) [(0, z41)] ψ38 y41 Q
              obtain ⟨hz42, ht42, hf42⟩ := H
              refine hw_if (a0 := 0) (b := 1) (e := 172) (by decide +kernel) hz42 (fun q => ?_) (fun q => ?_)
              · have H := ht42 q
                exact hw_vret (a0 := 0) (e := 0) (by decide +kernel) H
              · have H := hf42 q
                refine hw_ald (b := 0) (e := 0) (by decide +kernel) (get_st1 (get_st1 (get_st1 rfl (by decide) (fun q => tg2 q.2)) (by decide) (fun q => absurd q.1 (by decide))) (by decide) (fun q => absurd q.1 (by decide))) (by decide) ?_
                refine hr_call (a0 := 22) (b := 223) (e := 1) (nl := 2) (As := []) (R := []) 192 rfl (by decide +kernel) rfl rfl (Nat.le_of_ble_eq_true rfl) (Nat.le_of_ble_eq_true rfl) ?_
                refine hw_mono H ?_
                rintro r ψ44 y44 ⟨hyx, hr, H⟩
                subst hyx
                subst hr
                refine ⟨hnen, ?_⟩
                show hw sc (d + 2) 256 172 (jm_st1 (jm_st1 (jm_st1 [(0, (2, 192))] 1 (0, z1)) 2 (0, z27)) 3 (0, z28)) [] ψ44 y44 Q
                exact hw_vret (a0 := 0) (e := 0) (by decide +kernel) H
  · have H := hf2 q
    refine hw_ald (b := 0) (e := 0) (by decide +kernel) (get_st1 rfl (by decide) (fun q => tg2 q.2)) (by decide) ?_
    refine hr_gr (w := 194) (b := 12) (e := 6) 192 rfl (by decide +kernel) ?_
    refine hw_k (c := 3) (b := 0) (e := 1) (by decide +kernel) ?_
    refine hr_al (b := 0) (a0 := 0) (e := 0) (n := 361) (w := ψ1 194 3) 194 rfl (by decide +kernel) (by decide) (by decide) (by decide) rfl ?_
    obtain ⟨hz46, ht46, hf46⟩ := H
    refine hw_if (a0 := 0) (b := 5) (e := 97) (by decide +kernel) hz46 (fun q => ?_) (fun q => ?_)
    · have H := ht46 q
      refine hw_ld (b := 1) (e := 0) (by decide +kernel) get_st1e ?_
      refine hw_k (c := 1) (b := 0) (e := 1) (by decide +kernel) ?_
      obtain ⟨hz47, hy47, ht47, hf47⟩ := H
      refine hw_if2 (a0 := 0) (b := 1) (e := 156) (by decide +kernel) hz47 hy47 (fun q => ?_) (fun q => ?_)
      · have H := ht47 q
        refine hw_ld (b := 1) (e := 0) (by decide +kernel) get_st1e ?_
        refine hw_k (c := 2) (b := 0) (e := 1) (by decide +kernel) ?_
        obtain ⟨hz48, hy48, ht48, hf48⟩ := H
        refine hw_if2 (a0 := 0) (b := 1) (e := 172) (by decide +kernel) hz48 hy48 (fun q => ?_) (fun q => ?_)
        · have H := ht48 q
          exact hw_vret (a0 := 0) (e := 0) (by decide +kernel) H
        · have H := hf48 q
          refine hw_ald (b := 0) (e := 0) (by decide +kernel) (get_st1 rfl (by decide) (fun q => tg2 q.2)) (by decide) ?_
          refine hr_call (a0 := 22) (b := 222) (e := 1) (nl := 1) (As := []) (R := []) 192 rfl (by decide +kernel) rfl rfl (Nat.le_of_ble_eq_true rfl) (Nat.le_of_ble_eq_true rfl) ?_
          refine hw_mono H ?_
          rintro r ψ50 y50 ⟨hyx, hψx, z50, hr, H⟩
          subst hyx
          subst hψx
          subst hr
          refine ⟨hne0, ?_⟩
          show hw sc (d + 2) 256 165 (jm_st1 [(0, (2, 192))] 1 (0, z1)) [(0, z50)] ψ1 y50 Q
          obtain ⟨hz51, ht51, hf51⟩ := H
          refine hw_if (a0 := 0) (b := 1) (e := 172) (by decide +kernel) hz51 (fun q => ?_) (fun q => ?_)
          · have H := ht51 q
            exact hw_vret (a0 := 0) (e := 0) (by decide +kernel) H
          · have H := hf51 q
            refine hw_ald (b := 0) (e := 0) (by decide +kernel) (get_st1 rfl (by decide) (fun q => tg2 q.2)) (by decide) ?_
            refine hr_call (a0 := 22) (b := 223) (e := 1) (nl := 2) (As := []) (R := []) 192 rfl (by decide +kernel) rfl rfl (Nat.le_of_ble_eq_true rfl) (Nat.le_of_ble_eq_true rfl) ?_
            refine hw_mono H ?_
            rintro r ψ53 y53 ⟨hyx, hr, H⟩
            subst hyx
            subst hr
            refine ⟨hnen, ?_⟩
            show hw sc (d + 2) 256 172 (jm_st1 [(0, (2, 192))] 1 (0, z1)) [] ψ53 y53 Q
            exact hw_vret (a0 := 0) (e := 0) (by decide +kernel) H
      · have H := hf47 q
        refine hw_ald (b := 0) (e := 0) (by decide +kernel) (get_st1 rfl (by decide) (fun q => tg2 q.2)) (by decide) ?_
        refine hr_gr (w := 194) (b := 12) (e := 6) 192 rfl (by decide +kernel) ?_
        refine hw_k (c := 3) (b := 0) (e := 1) (by decide +kernel) ?_
        refine hr_al (b := 0) (a0 := 0) (e := 0) (n := 361) (w := ψ1 194 3) 194 rfl (by decide +kernel) (by decide) (by decide) (by decide) rfl ?_
        obtain ⟨hz55, ht55, hf55⟩ := H
        refine hw_if (a0 := 0) (b := 5) (e := 156) (by decide +kernel) hz55 (fun q => ?_) (fun q => ?_)
        · have H := ht55 q
          refine hw_ld (b := 1) (e := 0) (by decide +kernel) get_st1e ?_
          refine hw_k (c := 2) (b := 0) (e := 1) (by decide +kernel) ?_
          obtain ⟨hz56, hy56, ht56, hf56⟩ := H
          refine hw_if2 (a0 := 0) (b := 1) (e := 172) (by decide +kernel) hz56 hy56 (fun q => ?_) (fun q => ?_)
          · have H := ht56 q
            exact hw_vret (a0 := 0) (e := 0) (by decide +kernel) H
          · have H := hf56 q
            refine hw_ald (b := 0) (e := 0) (by decide +kernel) (get_st1 rfl (by decide) (fun q => tg2 q.2)) (by decide) ?_
            refine hr_call (a0 := 22) (b := 222) (e := 1) (nl := 1) (As := []) (R := []) 192 rfl (by decide +kernel) rfl rfl (Nat.le_of_ble_eq_true rfl) (Nat.le_of_ble_eq_true rfl) ?_
            refine hw_mono H ?_
            rintro r ψ58 y58 ⟨hyx, hψx, z58, hr, H⟩
            subst hyx
            subst hψx
            subst hr
            refine ⟨hne0, ?_⟩
            show hw sc (d + 2) 256 165 (jm_st1 [(0, (2, 192))] 1 (0, z1)) [(0, z58)] ψ1 y58 Q
            obtain ⟨hz59, ht59, hf59⟩ := H
            refine hw_if (a0 := 0) (b := 1) (e := 172) (by decide +kernel) hz59 (fun q => ?_) (fun q => ?_)
            · have H := ht59 q
              exact hw_vret (a0 := 0) (e := 0) (by decide +kernel) H
            · have H := hf59 q
              refine hw_ald (b := 0) (e := 0) (by decide +kernel) (get_st1 rfl (by decide) (fun q => tg2 q.2)) (by decide) ?_
              refine hr_call (a0 := 22) (b := 223) (e := 1) (nl := 2) (As := []) (R := []) 192 rfl (by decide +kernel) rfl rfl (Nat.le_of_ble_eq_true rfl) (Nat.le_of_ble_eq_true rfl) ?_
              refine hw_mono H ?_
              rintro r ψ61 y61 ⟨hyx, hr, H⟩
              subst hyx
              subst hr
              refine ⟨hnen, ?_⟩
              show hw sc (d + 2) 256 172 (jm_st1 [(0, (2, 192))] 1 (0, z1)) [] ψ61 y61 Q
              exact hw_vret (a0 := 0) (e := 0) (by decide +kernel) H
        · have H := hf55 q
          refine hw_ald (b := 0) (e := 0) (by decide +kernel) (get_st1 rfl (by decide) (fun q => tg2 q.2)) (by decide) ?_
          refine hr_gr (w := 194) (b := 12) (e := 6) 192 rfl (by decide +kernel) ?_
          refine hw_k (c := 2) (b := 0) (e := 1) (by decide +kernel) ?_
          refine hr_al (b := 0) (a0 := 0) (e := 0) (n := 361) (w := ψ1 194 2) 194 rfl (by decide +kernel) (by decide) (by decide) (by decide) rfl ?_
          obtain ⟨hz63, ht63, hf63⟩ := H
          refine hw_if (a0 := 0) (b := 5) (e := 156) (by decide +kernel) hz63 (fun q => ?_) (fun q => ?_)
          · have H := ht63 q
            refine hw_ld (b := 1) (e := 0) (by decide +kernel) get_st1e ?_
            refine hw_k (c := 2) (b := 0) (e := 1) (by decide +kernel) ?_
            obtain ⟨hz64, hy64, ht64, hf64⟩ := H
            refine hw_if2 (a0 := 0) (b := 1) (e := 172) (by decide +kernel) hz64 hy64 (fun q => ?_) (fun q => ?_)
            · have H := ht64 q
              exact hw_vret (a0 := 0) (e := 0) (by decide +kernel) H
            · have H := hf64 q
              refine hw_ald (b := 0) (e := 0) (by decide +kernel) (get_st1 rfl (by decide) (fun q => tg2 q.2)) (by decide) ?_
              refine hr_call (a0 := 22) (b := 222) (e := 1) (nl := 1) (As := []) (R := []) 192 rfl (by decide +kernel) rfl rfl (Nat.le_of_ble_eq_true rfl) (Nat.le_of_ble_eq_true rfl) ?_
              refine hw_mono H ?_
              rintro r ψ66 y66 ⟨hyx, hψx, z66, hr, H⟩
              subst hyx
              subst hψx
              subst hr
              refine ⟨hne0, ?_⟩
              show hw sc (d + 2) 256 165 (jm_st1 [(0, (2, 192))] 1 (0, z1)) [(0, z66)] ψ1 y66 Q
              obtain ⟨hz67, ht67, hf67⟩ := H
              refine hw_if (a0 := 0) (b := 1) (e := 172) (by decide +kernel) hz67 (fun q => ?_) (fun q => ?_)
              · have H := ht67 q
                exact hw_vret (a0 := 0) (e := 0) (by decide +kernel) H
              · have H := hf67 q
                refine hw_ald (b := 0) (e := 0) (by decide +kernel) (get_st1 rfl (by decide) (fun q => tg2 q.2)) (by decide) ?_
                refine hr_call (a0 := 22) (b := 223) (e := 1) (nl := 2) (As := []) (R := []) 192 rfl (by decide +kernel) rfl rfl (Nat.le_of_ble_eq_true rfl) (Nat.le_of_ble_eq_true rfl) ?_
                refine hw_mono H ?_
                rintro r ψ69 y69 ⟨hyx, hr, H⟩
                subst hyx
                subst hr
                refine ⟨hnen, ?_⟩
                show hw sc (d + 2) 256 172 (jm_st1 [(0, (2, 192))] 1 (0, z1)) [] ψ69 y69 Q
                exact hw_vret (a0 := 0) (e := 0) (by decide +kernel) H
          · have H := hf63 q
            refine hw_ald (b := 0) (e := 0) (by decide +kernel) (get_st1 rfl (by decide) (fun q => tg2 q.2)) (by decide) ?_
            refine hw_ald (b := 0) (e := 0) (by decide +kernel) (get_st1 rfl (by decide) (fun q => tg2 q.2)) (by decide) ?_
            refine hr_gr (w := 194) (b := 12) (e := 6) 192 rfl (by decide +kernel) ?_
            refine hw_k (c := 3) (b := 0) (e := 1) (by decide +kernel) ?_
            refine hr_al (b := 0) (a0 := 0) (e := 0) (n := 361) (w := ψ1 194 3) 194 rfl (by decide +kernel) (by decide) (by decide) (by decide) rfl ?_
            refine hr_call (a0 := 22) (b := 257) (e := 2) (nl := 2) (As := [(0, ψ1 194 3)]) (R := []) 192 rfl (by decide +kernel) rfl rfl (Nat.le_of_ble_eq_true rfl) (Nat.le_of_ble_eq_true rfl) ?_
            refine hw_mono H ?_
            rintro r ψ71 y71 ⟨hyx, z71, hr, H⟩
            subst hyx
            subst hr
            refine ⟨hne0, ?_⟩
            show hw sc (d + 2) 256 130 (jm_st1 [(0, (2, 192))] 1 (0, z1)) [(0, z71)] ψ71 y71 Q
            refine hw_st (L' := (jm_st1 (jm_st1 [(0, (2, 192))] 1 (0, z1)) 2 (0, z71))) (b := 2) (e := 0) (by decide +kernel) rfl ?_
            refine hw_ald (b := 0) (e := 0) (by decide +kernel) (get_st1 (get_st1 rfl (by decide) (fun q => tg2 q.2)) (by decide) (fun q => absurd q.1 (by decide))) (by decide) ?_
            refine hw_ald (b := 0) (e := 0) (by decide +kernel) (get_st1 (get_st1 rfl (by decide) (fun q => tg2 q.2)) (by decide) (fun q => absurd q.1 (by decide))) (by decide) ?_
            refine hr_gr (w := 194) (b := 12) (e := 6) 192 rfl (by decide +kernel) ?_
            refine hw_k (c := 2) (b := 0) (e := 1) (by decide +kernel) ?_
            refine hr_al (b := 0) (a0 := 0) (e := 0) (n := 361) (w := ψ71 194 2) 194 rfl (by decide +kernel) (by decide) (by decide) (by decide) rfl ?_
            refine hr_call (a0 := 22) (b := 257) (e := 2) (nl := 2) (As := [(0, ψ71 194 2)]) (R := []) 192 rfl (by decide +kernel) rfl rfl (Nat.le_of_ble_eq_true rfl) (Nat.le_of_ble_eq_true rfl) ?_
            refine hw_mono H ?_
            rintro r ψ72 y72 ⟨hyx, z72, hr, H⟩
            subst hyx
            subst hr
            refine ⟨hne0, ?_⟩
            show hw sc (d + 2) 256 141 (jm_st1 (jm_st1 [(0, (2, 192))] 1 (0, z1)) 2 (0, z71)) [(0, z72)] ψ72 y72 Q
            refine hw_st (L' := (jm_st1 (jm_st1 (jm_st1 [(0, (2, 192))] 1 (0, z1)) 2 (0, z71)) 3 (0, z72))) (b := 3) (e := 0) (by decide +kernel) rfl ?_
            refine hw_ald (b := 0) (e := 0) (by decide +kernel) (get_st1 (get_st1 (get_st1 rfl (by decide) (fun q => tg2 q.2)) (by decide) (fun q => absurd q.1 (by decide))) (by decide) (fun q => absurd q.1 (by decide))) (by decide) ?_
            refine hw_ld (b := 2) (e := 0) (by decide +kernel) (get_st1 get_st1e (by decide) (fun q => tg0 q.2)) ?_
            refine hr_call (a0 := 22) (b := 219) (e := 2) (nl := 2) (As := [(0, z71)]) (R := []) 192 rfl (by decide +kernel) rfl rfl (Nat.le_of_ble_eq_true rfl) (Nat.le_of_ble_eq_true rfl) ?_
            refine hw_mono H ?_
            rintro r ψ73 y73 ⟨hyx, hψx, z73, hr, H⟩
            subst hyx
            subst hψx
            subst hr
            refine ⟨hne0, ?_⟩
            show hw sc (d + 2) 256 147 (jm_st1 (jm_st1 (jm_st1 [(0, (2, 192))] 1 (0, z1)) 2 (0, z71)) 3 (0, z72)) [(0, z73)] ψ72 y73 Q
            obtain ⟨hz74, ht74, hf74⟩ := H
            refine hw_if (a0 := 0) (b := 1) (e := 156) (by decide +kernel) hz74 (fun q => ?_) (fun q => ?_)
            · have H := ht74 q
              refine hw_ld (b := 1) (e := 0) (by decide +kernel) (get_st1 (get_st1 get_st1e (by decide) (fun q => tg0 q.2)) (by decide) (fun q => absurd q.1 (by decide))) ?_
              refine hw_k (c := 2) (b := 0) (e := 1) (by decide +kernel) ?_
              obtain ⟨hz75, hy75, ht75, hf75⟩ := H
              refine hw_if2 (a0 := 0) (b := 1) (e := 172) (by decide +kernel) hz75 hy75 (fun q => ?_) (fun q => ?_)
              · have H := ht75 q
                exact hw_vret (a0 := 0) (e := 0) (by decide +kernel) H
              · have H := hf75 q
                refine hw_ald (b := 0) (e := 0) (by decide +kernel) (get_st1 (get_st1 (get_st1 rfl (by decide) (fun q => tg2 q.2)) (by decide) (fun q => absurd q.1 (by decide))) (by decide) (fun q => absurd q.1 (by decide))) (by decide) ?_
                refine hr_call (a0 := 22) (b := 222) (e := 1) (nl := 1) (As := []) (R := []) 192 rfl (by decide +kernel) rfl rfl (Nat.le_of_ble_eq_true rfl) (Nat.le_of_ble_eq_true rfl) ?_
                refine hw_mono H ?_
                rintro r ψ77 y77 ⟨hyx, hψx, z77, hr, H⟩
                subst hyx
                subst hψx
                subst hr
                refine ⟨hne0, ?_⟩
                show hw sc (d + 2) 256 165 (jm_st1 (jm_st1 (jm_st1 [(0, (2, 192))] 1 (0, z1)) 2 (0, z71)) 3 (0, z72)) [(0, z77)] ψ72 y77 Q
                obtain ⟨hz78, ht78, hf78⟩ := H
                refine hw_if (a0 := 0) (b := 1) (e := 172) (by decide +kernel) hz78 (fun q => ?_) (fun q => ?_)
                · have H := ht78 q
                  exact hw_vret (a0 := 0) (e := 0) (by decide +kernel) H
                · have H := hf78 q
                  refine hw_ald (b := 0) (e := 0) (by decide +kernel) (get_st1 (get_st1 (get_st1 rfl (by decide) (fun q => tg2 q.2)) (by decide) (fun q => absurd q.1 (by decide))) (by decide) (fun q => absurd q.1 (by decide))) (by decide) ?_
                  refine hr_call (a0 := 22) (b := 223) (e := 1) (nl := 2) (As := []) (R := []) 192 rfl (by decide +kernel) rfl rfl (Nat.le_of_ble_eq_true rfl) (Nat.le_of_ble_eq_true rfl) ?_
                  refine hw_mono H ?_
                  rintro r ψ80 y80 ⟨hyx, hr, H⟩
                  subst hyx
                  subst hr
                  refine ⟨hnen, ?_⟩
                  show hw sc (d + 2) 256 172 (jm_st1 (jm_st1 (jm_st1 [(0, (2, 192))] 1 (0, z1)) 2 (0, z71)) 3 (0, z72)) [] ψ80 y80 Q
                  exact hw_vret (a0 := 0) (e := 0) (by decide +kernel) H
            · have H := hf74 q
              refine hw_ald (b := 0) (e := 0) (by decide +kernel) (get_st1 (get_st1 (get_st1 rfl (by decide) (fun q => tg2 q.2)) (by decide) (fun q => absurd q.1 (by decide))) (by decide) (fun q => absurd q.1 (by decide))) (by decide) ?_
              refine hw_ld (b := 2) (e := 0) (by decide +kernel) (get_st1 get_st1e (by decide) (fun q => tg0 q.2)) ?_
              refine hw_ld (b := 3) (e := 0) (by decide +kernel) get_st1e ?_
              refine hr_call (a0 := 22) (b := 220) (e := 3) (nl := 3) (As := [(0, z71), (0, z72)]) (R := []) 192 rfl (by decide +kernel) rfl rfl (Nat.le_of_ble_eq_true rfl) (Nat.le_of_ble_eq_true rfl) ?_
              refine hw_mono H ?_
              rintro r ψ82 y82 ⟨hyx, hr, H⟩
              subst hyx
              subst hr
              refine ⟨hnen, ?_⟩
              show hw sc (d + 2) 256 156 (jm_st1 (jm_st1 (jm_st1 [(0, (2, 192))] 1 (0, z1)) 2 (0, z71)) 3 (0, z72)) [] ψ82 y82 Q
              refine hw_ld (b := 1) (e := 0) (by decide +kernel) (get_st1 (get_st1 get_st1e (by decide) (fun q => tg0 q.2)) (by decide) (fun q => absurd q.1 (by decide))) ?_
              refine hw_k (c := 2) (b := 0) (e := 1) (by decide +kernel) ?_
              obtain ⟨hz83, hy83, ht83, hf83⟩ := H
              refine hw_if2 (a0 := 0) (b := 1) (e := 172) (by decide +kernel) hz83 hy83 (fun q => ?_) (fun q => ?_)
              · have H := ht83 q
                exact hw_vret (a0 := 0) (e := 0) (by decide +kernel) H
              · have H := hf83 q
                refine hw_ald (b := 0) (e := 0) (by decide +kernel) (get_st1 (get_st1 (get_st1 rfl (by decide) (fun q => tg2 q.2)) (by decide) (fun q => absurd q.1 (by decide))) (by decide) (fun q => absurd q.1 (by decide))) (by decide) ?_
                refine hr_call (a0 := 22) (b := 222) (e := 1) (nl := 1) (As := []) (R := []) 192 rfl (by decide +kernel) rfl rfl (Nat.le_of_ble_eq_true rfl) (Nat.le_of_ble_eq_true rfl) ?_
                refine hw_mono H ?_
                rintro r ψ85 y85 ⟨hyx, hψx, z85, hr, H⟩
                subst hyx
                subst hψx
                subst hr
                refine ⟨hne0, ?_⟩
                show hw sc (d + 2) 256 165 (jm_st1 (jm_st1 (jm_st1 [(0, (2, 192))] 1 (0, z1)) 2 (0, z71)) 3 (0, z72)) [(0, z85)] ψ82 y85 Q
                obtain ⟨hz86, ht86, hf86⟩ := H
                refine hw_if (a0 := 0) (b := 1) (e := 172) (by decide +kernel) hz86 (fun q => ?_) (fun q => ?_)
                · have H := ht86 q
                  exact hw_vret (a0 := 0) (e := 0) (by decide +kernel) H
                · have H := hf86 q
                  refine hw_ald (b := 0) (e := 0) (by decide +kernel) (get_st1 (get_st1 (get_st1 rfl (by decide) (fun q => tg2 q.2)) (by decide) (fun q => absurd q.1 (by decide))) (by decide) (fun q => absurd q.1 (by decide))) (by decide) ?_
                  refine hr_call (a0 := 22) (b := 223) (e := 1) (nl := 2) (As := []) (R := []) 192 rfl (by decide +kernel) rfl rfl (Nat.le_of_ble_eq_true rfl) (Nat.le_of_ble_eq_true rfl) ?_
                  refine hw_mono H ?_
                  rintro r ψ88 y88 ⟨hyx, hr, H⟩
                  subst hyx
                  subst hr
                  refine ⟨hnen, ?_⟩
                  show hw sc (d + 2) 256 172 (jm_st1 (jm_st1 (jm_st1 [(0, (2, 192))] 1 (0, z1)) 2 (0, z71)) 3 (0, z72)) [] ψ88 y88 Q
                  exact hw_vret (a0 := 0) (e := 0) (by decide +kernel) H
    · have H := hf46 q
      refine hw_ald (b := 0) (e := 0) (by decide +kernel) (get_st1 rfl (by decide) (fun q => tg2 q.2)) (by decide) ?_
      refine hr_gr (w := 194) (b := 12) (e := 6) 192 rfl (by decide +kernel) ?_
      refine hw_k (c := 1) (b := 0) (e := 1) (by decide +kernel) ?_
      refine hr_al (b := 0) (a0 := 0) (e := 0) (n := 361) (w := ψ1 194 1) 194 rfl (by decide +kernel) (by decide) (by decide) (by decide) rfl ?_
      obtain ⟨hz90, ht90, hf90⟩ := H
      refine hw_if (a0 := 0) (b := 5) (e := 97) (by decide +kernel) hz90 (fun q => ?_) (fun q => ?_)
      · have H := ht90 q
        refine hw_ld (b := 1) (e := 0) (by decide +kernel) get_st1e ?_
        refine hw_k (c := 1) (b := 0) (e := 1) (by decide +kernel) ?_
        obtain ⟨hz91, hy91, ht91, hf91⟩ := H
        refine hw_if2 (a0 := 0) (b := 1) (e := 156) (by decide +kernel) hz91 hy91 (fun q => ?_) (fun q => ?_)
        · have H := ht91 q
          refine hw_ld (b := 1) (e := 0) (by decide +kernel) get_st1e ?_
          refine hw_k (c := 2) (b := 0) (e := 1) (by decide +kernel) ?_
          obtain ⟨hz92, hy92, ht92, hf92⟩ := H
          refine hw_if2 (a0 := 0) (b := 1) (e := 172) (by decide +kernel) hz92 hy92 (fun q => ?_) (fun q => ?_)
          · have H := ht92 q
            exact hw_vret (a0 := 0) (e := 0) (by decide +kernel) H
          · have H := hf92 q
            refine hw_ald (b := 0) (e := 0) (by decide +kernel) (get_st1 rfl (by decide) (fun q => tg2 q.2)) (by decide) ?_
            refine hr_call (a0 := 22) (b := 222) (e := 1) (nl := 1) (As := []) (R := []) 192 rfl (by decide +kernel) rfl rfl (Nat.le_of_ble_eq_true rfl) (Nat.le_of_ble_eq_true rfl) ?_
            refine hw_mono H ?_
            rintro r ψ94 y94 ⟨hyx, hψx, z94, hr, H⟩
            subst hyx
            subst hψx
            subst hr
            refine ⟨hne0, ?_⟩
            show hw sc (d + 2) 256 165 (jm_st1 [(0, (2, 192))] 1 (0, z1)) [(0, z94)] ψ1 y94 Q
            obtain ⟨hz95, ht95, hf95⟩ := H
            refine hw_if (a0 := 0) (b := 1) (e := 172) (by decide +kernel) hz95 (fun q => ?_) (fun q => ?_)
            · have H := ht95 q
              exact hw_vret (a0 := 0) (e := 0) (by decide +kernel) H
            · have H := hf95 q
              refine hw_ald (b := 0) (e := 0) (by decide +kernel) (get_st1 rfl (by decide) (fun q => tg2 q.2)) (by decide) ?_
              refine hr_call (a0 := 22) (b := 223) (e := 1) (nl := 2) (As := []) (R := []) 192 rfl (by decide +kernel) rfl rfl (Nat.le_of_ble_eq_true rfl) (Nat.le_of_ble_eq_true rfl) ?_
              refine hw_mono H ?_
              rintro r ψ97 y97 ⟨hyx, hr, H⟩
              subst hyx
              subst hr
              refine ⟨hnen, ?_⟩
              show hw sc (d + 2) 256 172 (jm_st1 [(0, (2, 192))] 1 (0, z1)) [] ψ97 y97 Q
              exact hw_vret (a0 := 0) (e := 0) (by decide +kernel) H
        · have H := hf91 q
          refine hw_ald (b := 0) (e := 0) (by decide +kernel) (get_st1 rfl (by decide) (fun q => tg2 q.2)) (by decide) ?_
          refine hr_gr (w := 194) (b := 12) (e := 6) 192 rfl (by decide +kernel) ?_
          refine hw_k (c := 3) (b := 0) (e := 1) (by decide +kernel) ?_
          refine hr_al (b := 0) (a0 := 0) (e := 0) (n := 361) (w := ψ1 194 3) 194 rfl (by decide +kernel) (by decide) (by decide) (by decide) rfl ?_
          obtain ⟨hz99, ht99, hf99⟩ := H
          refine hw_if (a0 := 0) (b := 5) (e := 156) (by decide +kernel) hz99 (fun q => ?_) (fun q => ?_)
          · have H := ht99 q
            refine hw_ld (b := 1) (e := 0) (by decide +kernel) get_st1e ?_
            refine hw_k (c := 2) (b := 0) (e := 1) (by decide +kernel) ?_
            obtain ⟨hz100, hy100, ht100, hf100⟩ := H
            refine hw_if2 (a0 := 0) (b := 1) (e := 172) (by decide +kernel) hz100 hy100 (fun q => ?_) (fun q => ?_)
            · have H := ht100 q
              exact hw_vret (a0 := 0) (e := 0) (by decide +kernel) H
            · have H := hf100 q
              refine hw_ald (b := 0) (e := 0) (by decide +kernel) (get_st1 rfl (by decide) (fun q => tg2 q.2)) (by decide) ?_
              refine hr_call (a0 := 22) (b := 222) (e := 1) (nl := 1) (As := []) (R := []) 192 rfl (by decide +kernel) rfl rfl (Nat.le_of_ble_eq_true rfl) (Nat.le_of_ble_eq_true rfl) ?_
              refine hw_mono H ?_
              rintro r ψ102 y102 ⟨hyx, hψx, z102, hr, H⟩
              subst hyx
              subst hψx
              subst hr
              refine ⟨hne0, ?_⟩
              show hw sc (d + 2) 256 165 (jm_st1 [(0, (2, 192))] 1 (0, z1)) [(0, z102)] ψ1 y102 Q
              obtain ⟨hz103, ht103, hf103⟩ := H
              refine hw_if (a0 := 0) (b := 1) (e := 172) (by decide +kernel) hz103 (fun q => ?_) (fun q => ?_)
              · have H := ht103 q
                exact hw_vret (a0 := 0) (e := 0) (by decide +kernel) H
              · have H := hf103 q
                refine hw_ald (b := 0) (e := 0) (by decide +kernel) (get_st1 rfl (by decide) (fun q => tg2 q.2)) (by decide) ?_
                refine hr_call (a0 := 22) (b := 223) (e := 1) (nl := 2) (As := []) (R := []) 192 rfl (by decide +kernel) rfl rfl (Nat.le_of_ble_eq_true rfl) (Nat.le_of_ble_eq_true rfl) ?_
                refine hw_mono H ?_
                rintro r ψ105 y105 ⟨hyx, hr, H⟩
                subst hyx
                subst hr
                refine ⟨hnen, ?_⟩
                show hw sc (d + 2) 256 172 (jm_st1 [(0, (2, 192))] 1 (0, z1)) [] ψ105 y105 Q
                exact hw_vret (a0 := 0) (e := 0) (by decide +kernel) H
          · have H := hf99 q
            refine hw_ald (b := 0) (e := 0) (by decide +kernel) (get_st1 rfl (by decide) (fun q => tg2 q.2)) (by decide) ?_
            refine hr_gr (w := 194) (b := 12) (e := 6) 192 rfl (by decide +kernel) ?_
            refine hw_k (c := 2) (b := 0) (e := 1) (by decide +kernel) ?_
            refine hr_al (b := 0) (a0 := 0) (e := 0) (n := 361) (w := ψ1 194 2) 194 rfl (by decide +kernel) (by decide) (by decide) (by decide) rfl ?_
            obtain ⟨hz107, ht107, hf107⟩ := H
            refine hw_if (a0 := 0) (b := 5) (e := 156) (by decide +kernel) hz107 (fun q => ?_) (fun q => ?_)
            · have H := ht107 q
              refine hw_ld (b := 1) (e := 0) (by decide +kernel) get_st1e ?_
              refine hw_k (c := 2) (b := 0) (e := 1) (by decide +kernel) ?_
              obtain ⟨hz108, hy108, ht108, hf108⟩ := H
              refine hw_if2 (a0 := 0) (b := 1) (e := 172) (by decide +kernel) hz108 hy108 (fun q => ?_) (fun q => ?_)
              · have H := ht108 q
                exact hw_vret (a0 := 0) (e := 0) (by decide +kernel) H
              · have H := hf108 q
                refine hw_ald (b := 0) (e := 0) (by decide +kernel) (get_st1 rfl (by decide) (fun q => tg2 q.2)) (by decide) ?_
                refine hr_call (a0 := 22) (b := 222) (e := 1) (nl := 1) (As := []) (R := []) 192 rfl (by decide +kernel) rfl rfl (Nat.le_of_ble_eq_true rfl) (Nat.le_of_ble_eq_true rfl) ?_
                refine hw_mono H ?_
                rintro r ψ110 y110 ⟨hyx, hψx, z110, hr, H⟩
                subst hyx
                subst hψx
                subst hr
                refine ⟨hne0, ?_⟩
                show hw sc (d + 2) 256 165 (jm_st1 [(0, (2, 192))] 1 (0, z1)) [(0, z110)] ψ1 y110 Q
                obtain ⟨hz111, ht111, hf111⟩ := H
                refine hw_if (a0 := 0) (b := 1) (e := 172) (by decide +kernel) hz111 (fun q => ?_) (fun q => ?_)
                · have H := ht111 q
                  exact hw_vret (a0 := 0) (e := 0) (by decide +kernel) H
                · have H := hf111 q
                  refine hw_ald (b := 0) (e := 0) (by decide +kernel) (get_st1 rfl (by decide) (fun q => tg2 q.2)) (by decide) ?_
                  refine hr_call (a0 := 22) (b := 223) (e := 1) (nl := 2) (As := []) (R := []) 192 rfl (by decide +kernel) rfl rfl (Nat.le_of_ble_eq_true rfl) (Nat.le_of_ble_eq_true rfl) ?_
                  refine hw_mono H ?_
                  rintro r ψ113 y113 ⟨hyx, hr, H⟩
                  subst hyx
                  subst hr
                  refine ⟨hnen, ?_⟩
                  show hw sc (d + 2) 256 172 (jm_st1 [(0, (2, 192))] 1 (0, z1)) [] ψ113 y113 Q
                  exact hw_vret (a0 := 0) (e := 0) (by decide +kernel) H
            · have H := hf107 q
              refine hw_ald (b := 0) (e := 0) (by decide +kernel) (get_st1 rfl (by decide) (fun q => tg2 q.2)) (by decide) ?_
              refine hw_ald (b := 0) (e := 0) (by decide +kernel) (get_st1 rfl (by decide) (fun q => tg2 q.2)) (by decide) ?_
              refine hr_gr (w := 194) (b := 12) (e := 6) 192 rfl (by decide +kernel) ?_
              refine hw_k (c := 3) (b := 0) (e := 1) (by decide +kernel) ?_
              refine hr_al (b := 0) (a0 := 0) (e := 0) (n := 361) (w := ψ1 194 3) 194 rfl (by decide +kernel) (by decide) (by decide) (by decide) rfl ?_
              refine hr_call (a0 := 22) (b := 257) (e := 2) (nl := 2) (As := [(0, ψ1 194 3)]) (R := []) 192 rfl (by decide +kernel) rfl rfl (Nat.le_of_ble_eq_true rfl) (Nat.le_of_ble_eq_true rfl) ?_
              refine hw_mono H ?_
              rintro r ψ115 y115 ⟨hyx, z115, hr, H⟩
              subst hyx
              subst hr
              refine ⟨hne0, ?_⟩
              show hw sc (d + 2) 256 130 (jm_st1 [(0, (2, 192))] 1 (0, z1)) [(0, z115)] ψ115 y115 Q
              refine hw_st (L' := (jm_st1 (jm_st1 [(0, (2, 192))] 1 (0, z1)) 2 (0, z115))) (b := 2) (e := 0) (by decide +kernel) rfl ?_
              refine hw_ald (b := 0) (e := 0) (by decide +kernel) (get_st1 (get_st1 rfl (by decide) (fun q => tg2 q.2)) (by decide) (fun q => absurd q.1 (by decide))) (by decide) ?_
              refine hw_ald (b := 0) (e := 0) (by decide +kernel) (get_st1 (get_st1 rfl (by decide) (fun q => tg2 q.2)) (by decide) (fun q => absurd q.1 (by decide))) (by decide) ?_
              refine hr_gr (w := 194) (b := 12) (e := 6) 192 rfl (by decide +kernel) ?_
              refine hw_k (c := 2) (b := 0) (e := 1) (by decide +kernel) ?_
              refine hr_al (b := 0) (a0 := 0) (e := 0) (n := 361) (w := ψ115 194 2) 194 rfl (by decide +kernel) (by decide) (by decide) (by decide) rfl ?_
              refine hr_call (a0 := 22) (b := 257) (e := 2) (nl := 2) (As := [(0, ψ115 194 2)]) (R := []) 192 rfl (by decide +kernel) rfl rfl (Nat.le_of_ble_eq_true rfl) (Nat.le_of_ble_eq_true rfl) ?_
              refine hw_mono H ?_
              rintro r ψ116 y116 ⟨hyx, z116, hr, H⟩
              subst hyx
              subst hr
              refine ⟨hne0, ?_⟩
              show hw sc (d + 2) 256 141 (jm_st1 (jm_st1 [(0, (2, 192))] 1 (0, z1)) 2 (0, z115)) [(0, z116)] ψ116 y116 Q
              refine hw_st (L' := (jm_st1 (jm_st1 (jm_st1 [(0, (2, 192))] 1 (0, z1)) 2 (0, z115)) 3 (0, z116))) (b := 3) (e := 0) (by decide +kernel) rfl ?_
              refine hw_ald (b := 0) (e := 0) (by decide +kernel) (get_st1 (get_st1 (get_st1 rfl (by decide) (fun q => tg2 q.2)) (by decide) (fun q => absurd q.1 (by decide))) (by decide) (fun q => absurd q.1 (by decide))) (by decide) ?_
              refine hw_ld (b := 2) (e := 0) (by decide +kernel) (get_st1 get_st1e (by decide) (fun q => tg0 q.2)) ?_
              refine hr_call (a0 := 22) (b := 219) (e := 2) (nl := 2) (As := [(0, z115)]) (R := []) 192 rfl (by decide +kernel) rfl rfl (Nat.le_of_ble_eq_true rfl) (Nat.le_of_ble_eq_true rfl) ?_
              refine hw_mono H ?_
              rintro r ψ117 y117 ⟨hyx, hψx, z117, hr, H⟩
              subst hyx
              subst hψx
              subst hr
              refine ⟨hne0, ?_⟩
              show hw sc (d + 2) 256 147 (jm_st1 (jm_st1 (jm_st1 [(0, (2, 192))] 1 (0, z1)) 2 (0, z115)) 3 (0, z116)) [(0, z117)] ψ116 y117 Q
              obtain ⟨hz118, ht118, hf118⟩ := H
              refine hw_if (a0 := 0) (b := 1) (e := 156) (by decide +kernel) hz118 (fun q => ?_) (fun q => ?_)
              · have H := ht118 q
                refine hw_ld (b := 1) (e := 0) (by decide +kernel) (get_st1 (get_st1 get_st1e (by decide) (fun q => tg0 q.2)) (by decide) (fun q => absurd q.1 (by decide))) ?_
                refine hw_k (c := 2) (b := 0) (e := 1) (by decide +kernel) ?_
                obtain ⟨hz119, hy119, ht119, hf119⟩ := H
                refine hw_if2 (a0 := 0) (b := 1) (e := 172) (by decide +kernel) hz119 hy119 (fun q => ?_) (fun q => ?_)
                · have H := ht119 q
                  exact hw_vret (a0 := 0) (e := 0) (by decide +kernel) H
                · have H := hf119 q
                  refine hw_ald (b := 0) (e := 0) (by decide +kernel) (get_st1 (get_st1 (get_st1 rfl (by decide) (fun q => tg2 q.2)) (by decide) (fun q => absurd q.1 (by decide))) (by decide) (fun q => absurd q.1 (by decide))) (by decide) ?_
                  refine hr_call (a0 := 22) (b := 222) (e := 1) (nl := 1) (As := []) (R := []) 192 rfl (by decide +kernel) rfl rfl (Nat.le_of_ble_eq_true rfl) (Nat.le_of_ble_eq_true rfl) ?_
                  refine hw_mono H ?_
                  rintro r ψ121 y121 ⟨hyx, hψx, z121, hr, H⟩
                  subst hyx
                  subst hψx
                  subst hr
                  refine ⟨hne0, ?_⟩
                  show hw sc (d + 2) 256 165 (jm_st1 (jm_st1 (jm_st1 [(0, (2, 192))] 1 (0, z1)) 2 (0, z115)) 3 (0, z116)) [(0, z121)] ψ116 y121 Q
                  obtain ⟨hz122, ht122, hf122⟩ := H
                  refine hw_if (a0 := 0) (b := 1) (e := 172) (by decide +kernel) hz122 (fun q => ?_) (fun q => ?_)
                  · have H := ht122 q
                    exact hw_vret (a0 := 0) (e := 0) (by decide +kernel) H
                  · have H := hf122 q
                    refine hw_ald (b := 0) (e := 0) (by decide +kernel) (get_st1 (get_st1 (get_st1 rfl (by decide) (fun q => tg2 q.2)) (by decide) (fun q => absurd q.1 (by decide))) (by decide) (fun q => absurd q.1 (by decide))) (by decide) ?_
                    refine hr_call (a0 := 22) (b := 223) (e := 1) (nl := 2) (As := []) (R := []) 192 rfl (by decide +kernel) rfl rfl (Nat.le_of_ble_eq_true rfl) (Nat.le_of_ble_eq_true rfl) ?_
                    refine hw_mono H ?_
                    rintro r ψ124 y124 ⟨hyx, hr, H⟩
                    subst hyx
                    subst hr
                    refine ⟨hnen, ?_⟩
                    show hw sc (d + 2) 256 172 (jm_st1 (jm_st1 (jm_st1 [(0, (2, 192))] 1 (0, z1)) 2 (0, z115)) 3 (0, z116)) [] ψ124 y124 Q
                    exact hw_vret (a0 := 0) (e := 0) (by decide +kernel) H
              · have H := hf118 q
                refine hw_ald (b := 0) (e := 0) (by decide +kernel) (get_st1 (get_st1 (get_st1 rfl (by decide) (fun q => tg2 q.2)) (by decide) (fun q => absurd q.1 (by decide))) (by decide) (fun q => absurd q.1 (by decide))) (by decide) ?_
                refine hw_ld (b := 2) (e := 0) (by decide +kernel) (get_st1 get_st1e (by decide) (fun q => tg0 q.2)) ?_
                refine hw_ld (b := 3) (e := 0) (by decide +kernel) get_st1e ?_
                refine hr_call (a0 := 22) (b := 220) (e := 3) (nl := 3) (As := [(0, z115), (0, z116)]) (R := []) 192 rfl (by decide +kernel) rfl rfl (Nat.le_of_ble_eq_true rfl) (Nat.le_of_ble_eq_true rfl) ?_
                refine hw_mono H ?_
                rintro r ψ126 y126 ⟨hyx, hr, H⟩
                subst hyx
                subst hr
                refine ⟨hnen, ?_⟩
                show hw sc (d + 2) 256 156 (jm_st1 (jm_st1 (jm_st1 [(0, (2, 192))] 1 (0, z1)) 2 (0, z115)) 3 (0, z116)) [] ψ126 y126 Q
                refine hw_ld (b := 1) (e := 0) (by decide +kernel) (get_st1 (get_st1 get_st1e (by decide) (fun q => tg0 q.2)) (by decide) (fun q => absurd q.1 (by decide))) ?_
                refine hw_k (c := 2) (b := 0) (e := 1) (by decide +kernel) ?_
                obtain ⟨hz127, hy127, ht127, hf127⟩ := H
                refine hw_if2 (a0 := 0) (b := 1) (e := 172) (by decide +kernel) hz127 hy127 (fun q => ?_) (fun q => ?_)
                · have H := ht127 q
                  exact hw_vret (a0 := 0) (e := 0) (by decide +kernel) H
                · have H := hf127 q
                  refine hw_ald (b := 0) (e := 0) (by decide +kernel) (get_st1 (get_st1 (get_st1 rfl (by decide) (fun q => tg2 q.2)) (by decide) (fun q => absurd q.1 (by decide))) (by decide) (fun q => absurd q.1 (by decide))) (by decide) ?_
                  refine hr_call (a0 := 22) (b := 222) (e := 1) (nl := 1) (As := []) (R := []) 192 rfl (by decide +kernel) rfl rfl (Nat.le_of_ble_eq_true rfl) (Nat.le_of_ble_eq_true rfl) ?_
                  refine hw_mono H ?_
                  rintro r ψ129 y129 ⟨hyx, hψx, z129, hr, H⟩
                  subst hyx
                  subst hψx
                  subst hr
                  refine ⟨hne0, ?_⟩
                  show hw sc (d + 2) 256 165 (jm_st1 (jm_st1 (jm_st1 [(0, (2, 192))] 1 (0, z1)) 2 (0, z115)) 3 (0, z116)) [(0, z129)] ψ126 y129 Q
                  obtain ⟨hz130, ht130, hf130⟩ := H
                  refine hw_if (a0 := 0) (b := 1) (e := 172) (by decide +kernel) hz130 (fun q => ?_) (fun q => ?_)
                  · have H := ht130 q
                    exact hw_vret (a0 := 0) (e := 0) (by decide +kernel) H
                  · have H := hf130 q
                    refine hw_ald (b := 0) (e := 0) (by decide +kernel) (get_st1 (get_st1 (get_st1 rfl (by decide) (fun q => tg2 q.2)) (by decide) (fun q => absurd q.1 (by decide))) (by decide) (fun q => absurd q.1 (by decide))) (by decide) ?_
                    refine hr_call (a0 := 22) (b := 223) (e := 1) (nl := 2) (As := []) (R := []) 192 rfl (by decide +kernel) rfl rfl (Nat.le_of_ble_eq_true rfl) (Nat.le_of_ble_eq_true rfl) ?_
                    refine hw_mono H ?_
                    rintro r ψ132 y132 ⟨hyx, hr, H⟩
                    subst hyx
                    subst hr
                    refine ⟨hnen, ?_⟩
                    show hw sc (d + 2) 256 172 (jm_st1 (jm_st1 (jm_st1 [(0, (2, 192))] 1 (0, z1)) 2 (0, z115)) 3 (0, z116)) [] ψ132 y132 Q
                    exact hw_vret (a0 := 0) (e := 0) (by decide +kernel) H
      · have H := hf90 q
        refine hw_ald (b := 0) (e := 0) (by decide +kernel) (get_st1 rfl (by decide) (fun q => tg2 q.2)) (by decide) ?_
        refine hw_ald (b := 0) (e := 0) (by decide +kernel) (get_st1 rfl (by decide) (fun q => tg2 q.2)) (by decide) ?_
        refine hr_gr (w := 194) (b := 12) (e := 6) 192 rfl (by decide +kernel) ?_
        refine hw_k (c := 3) (b := 0) (e := 1) (by decide +kernel) ?_
        refine hr_al (b := 0) (a0 := 0) (e := 0) (n := 361) (w := ψ1 194 3) 194 rfl (by decide +kernel) (by decide) (by decide) (by decide) rfl ?_
        refine hr_call (a0 := 22) (b := 257) (e := 2) (nl := 2) (As := [(0, ψ1 194 3)]) (R := []) 192 rfl (by decide +kernel) rfl rfl (Nat.le_of_ble_eq_true rfl) (Nat.le_of_ble_eq_true rfl) ?_
        refine hw_mono H ?_
        rintro r ψ134 y134 ⟨hyx, z134, hr, H⟩
        subst hyx
        subst hr
        refine ⟨hne0, ?_⟩
        show hw sc (d + 2) 256 39 (jm_st1 [(0, (2, 192))] 1 (0, z1)) [(0, z134)] ψ134 y134 Q
        refine hw_st (L' := (jm_st1 (jm_st1 [(0, (2, 192))] 1 (0, z1)) 2 (0, z134))) (b := 2) (e := 0) (by decide +kernel) rfl ?_
        refine hw_ald (b := 0) (e := 0) (by decide +kernel) (get_st1 (get_st1 rfl (by decide) (fun q => tg2 q.2)) (by decide) (fun q => absurd q.1 (by decide))) (by decide) ?_
        refine hw_ald (b := 0) (e := 0) (by decide +kernel) (get_st1 (get_st1 rfl (by decide) (fun q => tg2 q.2)) (by decide) (fun q => absurd q.1 (by decide))) (by decide) ?_
        refine hr_gr (w := 194) (b := 12) (e := 6) 192 rfl (by decide +kernel) ?_
        refine hw_k (c := 1) (b := 0) (e := 1) (by decide +kernel) ?_
        refine hr_al (b := 0) (a0 := 0) (e := 0) (n := 361) (w := ψ134 194 1) 194 rfl (by decide +kernel) (by decide) (by decide) (by decide) rfl ?_
        refine hr_call (a0 := 22) (b := 257) (e := 2) (nl := 2) (As := [(0, ψ134 194 1)]) (R := []) 192 rfl (by decide +kernel) rfl rfl (Nat.le_of_ble_eq_true rfl) (Nat.le_of_ble_eq_true rfl) ?_
        refine hw_mono H ?_
        rintro r ψ135 y135 ⟨hyx, z135, hr, H⟩
        subst hyx
        subst hr
        refine ⟨hne0, ?_⟩
        show hw sc (d + 2) 256 50 (jm_st1 (jm_st1 [(0, (2, 192))] 1 (0, z1)) 2 (0, z134)) [(0, z135)] ψ135 y135 Q
        refine hw_st (L' := (jm_st1 (jm_st1 (jm_st1 [(0, (2, 192))] 1 (0, z1)) 2 (0, z134)) 3 (0, z135))) (b := 3) (e := 0) (by decide +kernel) rfl ?_
        refine hw_ald (b := 0) (e := 0) (by decide +kernel) (get_st1 (get_st1 (get_st1 rfl (by decide) (fun q => tg2 q.2)) (by decide) (fun q => absurd q.1 (by decide))) (by decide) (fun q => absurd q.1 (by decide))) (by decide) ?_
        refine hr_gr (w := 194) (b := 12) (e := 6) 192 rfl (by decide +kernel) ?_
        refine hw_k (c := 112) (b := 1) (e := 2) (by decide +kernel) ?_
        refine hw_ld (b := 2) (e := 0) (by decide +kernel) (get_st1 get_st1e (by decide) (fun q => tg0 q.2)) ?_
        refine hw_bin (w := 112 + z134) (a0 := 0) (b := 0) (e := 0) (by decide +kernel) rfl ?_
        obtain ⟨hl136, hu136, H⟩ := H
        refine hr_al (b := 0) (a0 := 0) (e := 0) (n := 361) (w := ψ135 194 ((112 + z134).toNat)) 194 rfl (by decide +kernel) (by decide) hl136 hu136 rfl ?_
        obtain ⟨hz137, ht137, hf137⟩ := H
        refine hw_if (a0 := 0) (b := 5) (e := 76) (by decide +kernel) hz137 (fun q => ?_) (fun q => ?_)
        · have H := ht137 q
          refine hw_ald (b := 0) (e := 0) (by decide +kernel) (get_st1 (get_st1 (get_st1 rfl (by decide) (fun q => tg2 q.2)) (by decide) (fun q => absurd q.1 (by decide))) (by decide) (fun q => absurd q.1 (by decide))) (by decide) ?_
          refine hw_ld (b := 2) (e := 0) (by decide +kernel) (get_st1 get_st1e (by decide) (fun q => tg0 q.2)) ?_
          refine hw_ld (b := 3) (e := 0) (by decide +kernel) get_st1e ?_
          refine hr_call (a0 := 22) (b := 215) (e := 3) (nl := 3) (As := [(0, z134), (0, z135)]) (R := []) 192 rfl (by decide +kernel) rfl rfl (Nat.le_of_ble_eq_true rfl) (Nat.le_of_ble_eq_true rfl) ?_
          refine hw_mono H ?_
          rintro r ψ138 y138 ⟨hyx, hψx, z138, hr, H⟩
          subst hyx
          subst hψx
          subst hr
          refine ⟨hne0, ?_⟩
          show hw sc (d + 2) 256 82 (jm_st1 (jm_st1 (jm_st1 [(0, (2, 192))] 1 (0, z1)) 2 (0, z134)) 3 (0, z135)) [(0, z138)] ψ135 y138 Q
          obtain ⟨hz139, ht139, hf139⟩ := H
          refine hw_if (a0 := 0) (b := 1) (e := 97) (by decide +kernel) hz139 (fun q => ?_) (fun q => ?_)
          · have H := ht139 q
            refine hw_ld (b := 1) (e := 0) (by decide +kernel) (get_st1 (get_st1 get_st1e (by decide) (fun q => tg0 q.2)) (by decide) (fun q => absurd q.1 (by decide))) ?_
            refine hw_k (c := 1) (b := 0) (e := 1) (by decide +kernel) ?_
            obtain ⟨hz140, hy140, ht140, hf140⟩ := H
            refine hw_if2 (a0 := 0) (b := 1) (e := 156) (by decide +kernel) hz140 hy140 (fun q => ?_) (fun q => ?_)
            · have H := ht140 q
              refine hw_ld (b := 1) (e := 0) (by decide +kernel) (get_st1 (get_st1 get_st1e (by decide) (fun q => tg0 q.2)) (by decide) (fun q => absurd q.1 (by decide))) ?_
              refine hw_k (c := 2) (b := 0) (e := 1) (by decide +kernel) ?_
              obtain ⟨hz141, hy141, ht141, hf141⟩ := H
              refine hw_if2 (a0 := 0) (b := 1) (e := 172) (by decide +kernel) hz141 hy141 (fun q => ?_) (fun q => ?_)
              · have H := ht141 q
                exact hw_vret (a0 := 0) (e := 0) (by decide +kernel) H
              · have H := hf141 q
                refine hw_ald (b := 0) (e := 0) (by decide +kernel) (get_st1 (get_st1 (get_st1 rfl (by decide) (fun q => tg2 q.2)) (by decide) (fun q => absurd q.1 (by decide))) (by decide) (fun q => absurd q.1 (by decide))) (by decide) ?_
                refine hr_call (a0 := 22) (b := 222) (e := 1) (nl := 1) (As := []) (R := []) 192 rfl (by decide +kernel) rfl rfl (Nat.le_of_ble_eq_true rfl) (Nat.le_of_ble_eq_true rfl) ?_
                refine hw_mono H ?_
                rintro r ψ143 y143 ⟨hyx, hψx, z143, hr, H⟩
                subst hyx
                subst hψx
                subst hr
                refine ⟨hne0, ?_⟩
                show hw sc (d + 2) 256 165 (jm_st1 (jm_st1 (jm_st1 [(0, (2, 192))] 1 (0, z1)) 2 (0, z134)) 3 (0, z135)) [(0, z143)] ψ135 y143 Q
                obtain ⟨hz144, ht144, hf144⟩ := H
                refine hw_if (a0 := 0) (b := 1) (e := 172) (by decide +kernel) hz144 (fun q => ?_) (fun q => ?_)
                · have H := ht144 q
                  exact hw_vret (a0 := 0) (e := 0) (by decide +kernel) H
                · have H := hf144 q
                  refine hw_ald (b := 0) (e := 0) (by decide +kernel) (get_st1 (get_st1 (get_st1 rfl (by decide) (fun q => tg2 q.2)) (by decide) (fun q => absurd q.1 (by decide))) (by decide) (fun q => absurd q.1 (by decide))) (by decide) ?_
                  refine hr_call (a0 := 22) (b := 223) (e := 1) (nl := 2) (As := []) (R := []) 192 rfl (by decide +kernel) rfl rfl (Nat.le_of_ble_eq_true rfl) (Nat.le_of_ble_eq_true rfl) ?_
                  refine hw_mono H ?_
                  rintro r ψ146 y146 ⟨hyx, hr, H⟩
                  subst hyx
                  subst hr
                  refine ⟨hnen, ?_⟩
                  show hw sc (d + 2) 256 172 (jm_st1 (jm_st1 (jm_st1 [(0, (2, 192))] 1 (0, z1)) 2 (0, z134)) 3 (0, z135)) [] ψ146 y146 Q
                  exact hw_vret (a0 := 0) (e := 0) (by decide +kernel) H
            · have H := hf140 q
              refine hw_ald (b := 0) (e := 0) (by decide +kernel) (get_st1 (get_st1 (get_st1 rfl (by decide) (fun q => tg2 q.2)) (by decide) (fun q => absurd q.1 (by decide))) (by decide) (fun q => absurd q.1 (by decide))) (by decide) ?_
              refine hr_gr (w := 194) (b := 12) (e := 6) 192 rfl (by decide +kernel) ?_
              refine hw_k (c := 3) (b := 0) (e := 1) (by decide +kernel) ?_
              refine hr_al (b := 0) (a0 := 0) (e := 0) (n := 361) (w := ψ135 194 3) 194 rfl (by decide +kernel) (by decide) (by decide) (by decide) rfl ?_
              obtain ⟨hz148, ht148, hf148⟩ := H
              refine hw_if (a0 := 0) (b := 5) (e := 156) (by decide +kernel) hz148 (fun q => ?_) (fun q => ?_)
              · have H := ht148 q
                refine hw_ld (b := 1) (e := 0) (by decide +kernel) (get_st1 (get_st1 get_st1e (by decide) (fun q => tg0 q.2)) (by decide) (fun q => absurd q.1 (by decide))) ?_
                refine hw_k (c := 2) (b := 0) (e := 1) (by decide +kernel) ?_
                obtain ⟨hz149, hy149, ht149, hf149⟩ := H
                refine hw_if2 (a0 := 0) (b := 1) (e := 172) (by decide +kernel) hz149 hy149 (fun q => ?_) (fun q => ?_)
                · have H := ht149 q
                  exact hw_vret (a0 := 0) (e := 0) (by decide +kernel) H
                · have H := hf149 q
                  refine hw_ald (b := 0) (e := 0) (by decide +kernel) (get_st1 (get_st1 (get_st1 rfl (by decide) (fun q => tg2 q.2)) (by decide) (fun q => absurd q.1 (by decide))) (by decide) (fun q => absurd q.1 (by decide))) (by decide) ?_
                  refine hr_call (a0 := 22) (b := 222) (e := 1) (nl := 1) (As := []) (R := []) 192 rfl (by decide +kernel) rfl rfl (Nat.le_of_ble_eq_true rfl) (Nat.le_of_ble_eq_true rfl) ?_
                  refine hw_mono H ?_
                  rintro r ψ151 y151 ⟨hyx, hψx, z151, hr, H⟩
                  subst hyx
                  subst hψx
                  subst hr
                  refine ⟨hne0, ?_⟩
                  show hw sc (d + 2) 256 165 (jm_st1 (jm_st1 (jm_st1 [(0, (2, 192))] 1 (0, z1)) 2 (0, z134)) 3 (0, z135)) [(0, z151)] ψ135 y151 Q
                  obtain ⟨hz152, ht152, hf152⟩ := H
                  refine hw_if (a0 := 0) (b := 1) (e := 172) (by decide +kernel) hz152 (fun q => ?_) (fun q => ?_)
                  · have H := ht152 q
                    exact hw_vret (a0 := 0) (e := 0) (by decide +kernel) H
                  · have H := hf152 q
                    refine hw_ald (b := 0) (e := 0) (by decide +kernel) (get_st1 (get_st1 (get_st1 rfl (by decide) (fun q => tg2 q.2)) (by decide) (fun q => absurd q.1 (by decide))) (by decide) (fun q => absurd q.1 (by decide))) (by decide) ?_
                    refine hr_call (a0 := 22) (b := 223) (e := 1) (nl := 2) (As := []) (R := []) 192 rfl (by decide +kernel) rfl rfl (Nat.le_of_ble_eq_true rfl) (Nat.le_of_ble_eq_true rfl) ?_
                    refine hw_mono H ?_
                    rintro r ψ154 y154 ⟨hyx, hr, H⟩
                    subst hyx
                    subst hr
                    refine ⟨hnen, ?_⟩
                    show hw sc (d + 2) 256 172 (jm_st1 (jm_st1 (jm_st1 [(0, (2, 192))] 1 (0, z1)) 2 (0, z134)) 3 (0, z135)) [] ψ154 y154 Q
                    exact hw_vret (a0 := 0) (e := 0) (by decide +kernel) H
              · have H := hf148 q
                refine hw_ald (b := 0) (e := 0) (by decide +kernel) (get_st1 (get_st1 (get_st1 rfl (by decide) (fun q => tg2 q.2)) (by decide) (fun q => absurd q.1 (by decide))) (by decide) (fun q => absurd q.1 (by decide))) (by decide) ?_
                refine hr_gr (w := 194) (b := 12) (e := 6) 192 rfl (by decide +kernel) ?_
                refine hw_k (c := 2) (b := 0) (e := 1) (by decide +kernel) ?_
                refine hr_al (b := 0) (a0 := 0) (e := 0) (n := 361) (w := ψ135 194 2) 194 rfl (by decide +kernel) (by decide) (by decide) (by decide) rfl ?_
                obtain ⟨hz156, ht156, hf156⟩ := H
                refine hw_if (a0 := 0) (b := 5) (e := 156) (by decide +kernel) hz156 (fun q => ?_) (fun q => ?_)
                · have H := ht156 q
                  refine hw_ld (b := 1) (e := 0) (by decide +kernel) (get_st1 (get_st1 get_st1e (by decide) (fun q => tg0 q.2)) (by decide) (fun q => absurd q.1 (by decide))) ?_
                  refine hw_k (c := 2) (b := 0) (e := 1) (by decide +kernel) ?_
                  obtain ⟨hz157, hy157, ht157, hf157⟩ := H
                  refine hw_if2 (a0 := 0) (b := 1) (e := 172) (by decide +kernel) hz157 hy157 (fun q => ?_) (fun q => ?_)
                  · have H := ht157 q
                    exact hw_vret (a0 := 0) (e := 0) (by decide +kernel) H
                  · have H := hf157 q
                    refine hw_ald (b := 0) (e := 0) (by decide +kernel) (get_st1 (get_st1 (get_st1 rfl (by decide) (fun q => tg2 q.2)) (by decide) (fun q => absurd q.1 (by decide))) (by decide) (fun q => absurd q.1 (by decide))) (by decide) ?_
                    refine hr_call (a0 := 22) (b := 222) (e := 1) (nl := 1) (As := []) (R := []) 192 rfl (by decide +kernel) rfl rfl (Nat.le_of_ble_eq_true rfl) (Nat.le_of_ble_eq_true rfl) ?_
                    refine hw_mono H ?_
                    rintro r ψ159 y159 ⟨hyx, hψx, z159, hr, H⟩
                    subst hyx
                    subst hψx
                    subst hr
                    refine ⟨hne0, ?_⟩
                    show hw sc (d + 2) 256 165 (jm_st1 (jm_st1 (jm_st1 [(0, (2, 192))] 1 (0, z1)) 2 (0, z134)) 3 (0, z135)) [(0, z159)] ψ135 y159 Q
                    obtain ⟨hz160, ht160, hf160⟩ := H
                    refine hw_if (a0 := 0) (b := 1) (e := 172) (by decide +kernel) hz160 (fun q => ?_) (fun q => ?_)
                    · have H := ht160 q
                      exact hw_vret (a0 := 0) (e := 0) (by decide +kernel) H
                    · have H := hf160 q
                      refine hw_ald (b := 0) (e := 0) (by decide +kernel) (get_st1 (get_st1 (get_st1 rfl (by decide) (fun q => tg2 q.2)) (by decide) (fun q => absurd q.1 (by decide))) (by decide) (fun q => absurd q.1 (by decide))) (by decide) ?_
                      refine hr_call (a0 := 22) (b := 223) (e := 1) (nl := 2) (As := []) (R := []) 192 rfl (by decide +kernel) rfl rfl (Nat.le_of_ble_eq_true rfl) (Nat.le_of_ble_eq_true rfl) ?_
                      refine hw_mono H ?_
                      rintro r ψ162 y162 ⟨hyx, hr, H⟩
                      subst hyx
                      subst hr
                      refine ⟨hnen, ?_⟩
                      show hw sc (d + 2) 256 172 (jm_st1 (jm_st1 (jm_st1 [(0, (2, 192))] 1 (0, z1)) 2 (0, z134)) 3 (0, z135)) [] ψ162 y162 Q
                      exact hw_vret (a0 := 0) (e := 0) (by decide +kernel) H
                · have H := hf156 q
                  refine hw_ald (b := 0) (e := 0) (by decide +kernel) (get_st1 (get_st1 (get_st1 rfl (by decide) (fun q => tg2 q.2)) (by decide) (fun q => absurd q.1 (by decide))) (by decide) (fun q => absurd q.1 (by decide))) (by decide) ?_
                  refine hw_ald (b := 0) (e := 0) (by decide +kernel) (get_st1 (get_st1 (get_st1 rfl (by decide) (fun q => tg2 q.2)) (by decide) (fun q => absurd q.1 (by decide))) (by decide) (fun q => absurd q.1 (by decide))) (by decide) ?_
                  refine hr_gr (w := 194) (b := 12) (e := 6) 192 rfl (by decide +kernel) ?_
                  refine hw_k (c := 3) (b := 0) (e := 1) (by decide +kernel) ?_
                  refine hr_al (b := 0) (a0 := 0) (e := 0) (n := 361) (w := ψ135 194 3) 194 rfl (by decide +kernel) (by decide) (by decide) (by decide) rfl ?_
                  refine hr_call (a0 := 22) (b := 257) (e := 2) (nl := 2) (As := [(0, ψ135 194 3)]) (R := []) 192 rfl (by decide +kernel) rfl rfl (Nat.le_of_ble_eq_true rfl) (Nat.le_of_ble_eq_true rfl) ?_
                  refine hw_mono H ?_
                  rintro r ψ164 y164 ⟨hyx, z164, hr, H⟩
                  subst hyx
                  subst hr
                  refine ⟨hne0, ?_⟩
                  show hw sc (d + 2) 256 130 (jm_st1 (jm_st1 (jm_st1 [(0, (2, 192))] 1 (0, z1)) 2 (0, z134)) 3 (0, z135)) [(0, z164)] ψ164 y164 Q
                  refine hw_st (L' := (jm_st1 (jm_st1 (jm_st1 (jm_st1 [(0, (2, 192))] 1 (0, z1)) 2 (0, z134)) 3 (0, z135)) 2 (0, z164))) (b := 2) (e := 0) (by decide +kernel) rfl ?_
                  refine hw_ald (b := 0) (e := 0) (by decide +kernel) (get_st1 (get_st1 (get_st1 (get_st1 rfl (by decide) (fun q => tg2 q.2)) (by decide) (fun q => absurd q.1 (by decide))) (by decide) (fun q => absurd q.1 (by decide))) (by decide) (fun q => absurd q.1 (by decide))) (by decide) ?_
                  refine hw_ald (b := 0) (e := 0) (by decide +kernel) (get_st1 (get_st1 (get_st1 (get_st1 rfl (by decide) (fun q => tg2 q.2)) (by decide) (fun q => absurd q.1 (by decide))) (by decide) (fun q => absurd q.1 (by decide))) (by decide) (fun q => absurd q.1 (by decide))) (by decide) ?_
                  refine hr_gr (w := 194) (b := 12) (e := 6) 192 rfl (by decide +kernel) ?_
                  refine hw_k (c := 2) (b := 0) (e := 1) (by decide +kernel) ?_
                  refine hr_al (b := 0) (a0 := 0) (e := 0) (n := 361) (w := ψ164 194 2) 194 rfl (by decide +kernel) (by decide) (by decide) (by decide) rfl ?_
                  refine hr_call (a0 := 22) (b := 257) (e := 2) (nl := 2) (As := [(0, ψ164 194 2)]) (R := []) 192 rfl (by decide +kernel) rfl rfl (Nat.le_of_ble_eq_true rfl) (Nat.le_of_ble_eq_true rfl) ?_
                  refine hw_mono H ?_
                  rintro r ψ165 y165 ⟨hyx, z165, hr, H⟩
                  subst hyx
                  subst hr
                  refine ⟨hne0, ?_⟩
                  show hw sc (d + 2) 256 141 (jm_st1 (jm_st1 (jm_st1 (jm_st1 [(0, (2, 192))] 1 (0, z1)) 2 (0, z134)) 3 (0, z135)) 2 (0, z164)) [(0, z165)] ψ165 y165 Q
                  refine hw_st (L' := (jm_st1 (jm_st1 (jm_st1 (jm_st1 (jm_st1 [(0, (2, 192))] 1 (0, z1)) 2 (0, z134)) 3 (0, z135)) 2 (0, z164)) 3 (0, z165))) (b := 3) (e := 0) (by decide +kernel) rfl ?_
                  refine hw_ald (b := 0) (e := 0) (by decide +kernel) (get_st1 (get_st1 (get_st1 (get_st1 (get_st1 rfl (by decide) (fun q => tg2 q.2)) (by decide) (fun q => absurd q.1 (by decide))) (by decide) (fun q => absurd q.1 (by decide))) (by decide) (fun q => absurd q.1 (by decide))) (by decide) (fun q => absurd q.1 (by decide))) (by decide) ?_
                  refine hw_ld (b := 2) (e := 0) (by decide +kernel) (get_st1 get_st1e (by decide) (fun q => tg0 q.2)) ?_
                  refine hr_call (a0 := 22) (b := 219) (e := 2) (nl := 2) (As := [(0, z164)]) (R := []) 192 rfl (by decide +kernel) rfl rfl (Nat.le_of_ble_eq_true rfl) (Nat.le_of_ble_eq_true rfl) ?_
                  refine hw_mono H ?_
                  rintro r ψ166 y166 ⟨hyx, hψx, z166, hr, H⟩
                  subst hyx
                  subst hψx
                  subst hr
                  refine ⟨hne0, ?_⟩
                  show hw sc (d + 2) 256 147 (jm_st1 (jm_st1 (jm_st1 (jm_st1 (jm_st1 [(0, (2, 192))] 1 (0, z1)) 2 (0, z134)) 3 (0, z135)) 2 (0, z164)) 3 (0, z165)) [(0, z166)] ψ165 y166 Q
                  obtain ⟨hz167, ht167, hf167⟩ := H
                  refine hw_if (a0 := 0) (b := 1) (e := 156) (by decide +kernel) hz167 (fun q => ?_) (fun q => ?_)
                  · have H := ht167 q
                    refine hw_ld (b := 1) (e := 0) (by decide +kernel) (get_st1 (get_st1 (get_st1 (get_st1 get_st1e (by decide) (fun q => tg0 q.2)) (by decide) (fun q => absurd q.1 (by decide))) (by decide) (fun q => tg0 q.2)) (by decide) (fun q => absurd q.1 (by decide))) ?_
                    refine hw_k (c := 2) (b := 0) (e := 1) (by decide +kernel) ?_
                    obtain ⟨hz168, hy168, ht168, hf168⟩ := H
                    refine hw_if2 (a0 := 0) (b := 1) (e := 172) (by decide +kernel) hz168 hy168 (fun q => ?_) (fun q => ?_)
                    · have H := ht168 q
                      exact hw_vret (a0 := 0) (e := 0) (by decide +kernel) H
                    · have H := hf168 q
                      refine hw_ald (b := 0) (e := 0) (by decide +kernel) (get_st1 (get_st1 (get_st1 (get_st1 (get_st1 rfl (by decide) (fun q => tg2 q.2)) (by decide) (fun q => absurd q.1 (by decide))) (by decide) (fun q => absurd q.1 (by decide))) (by decide) (fun q => absurd q.1 (by decide))) (by decide) (fun q => absurd q.1 (by decide))) (by decide) ?_
                      refine hr_call (a0 := 22) (b := 222) (e := 1) (nl := 1) (As := []) (R := []) 192 rfl (by decide +kernel) rfl rfl (Nat.le_of_ble_eq_true rfl) (Nat.le_of_ble_eq_true rfl) ?_
                      refine hw_mono H ?_
                      rintro r ψ170 y170 ⟨hyx, hψx, z170, hr, H⟩
                      subst hyx
                      subst hψx
                      subst hr
                      refine ⟨hne0, ?_⟩
                      show hw sc (d + 2) 256 165 (jm_st1 (jm_st1 (jm_st1 (jm_st1 (jm_st1 [(0, (2, 192))] 1 (0, z1)) 2 (0, z134)) 3 (0, z135)) 2 (0, z164)) 3 (0, z165)) [(0, z170)] ψ165 y170 Q
                      obtain ⟨hz171, ht171, hf171⟩ := H
                      refine hw_if (a0 := 0) (b := 1) (e := 172) (by decide +kernel) hz171 (fun q => ?_) (fun q => ?_)
                      · have H := ht171 q
                        exact hw_vret (a0 := 0) (e := 0) (by decide +kernel) H
                      · have H := hf171 q
                        refine hw_ald (b := 0) (e := 0) (by decide +kernel) (get_st1 (get_st1 (get_st1 (get_st1 (get_st1 rfl (by decide) (fun q => tg2 q.2)) (by decide) (fun q => absurd q.1 (by decide))) (by decide) (fun q => absurd q.1 (by decide))) (by decide) (fun q => absurd q.1 (by decide))) (by decide) (fun q => absurd q.1 (by decide))) (by decide) ?_
                        refine hr_call (a0 := 22) (b := 223) (e := 1) (nl := 2) (As := []) (R := []) 192 rfl (by decide +kernel) rfl rfl (Nat.le_of_ble_eq_true rfl) (Nat.le_of_ble_eq_true rfl) ?_
                        refine hw_mono H ?_
                        rintro r ψ173 y173 ⟨hyx, hr, H⟩
                        subst hyx
                        subst hr
                        refine ⟨hnen, ?_⟩
                        show hw sc (d + 2) 256 172 (jm_st1 (jm_st1 (jm_st1 (jm_st1 (jm_st1 [(0, (2, 192))] 1 (0, z1)) 2 (0, z134)) 3 (0, z135)) 2 (0, z164)) 3 (0, z165)) [] ψ173 y173 Q
                        exact hw_vret (a0 := 0) (e := 0) (by decide +kernel) H
                  · have H := hf167 q
                    refine hw_ald (b := 0) (e := 0) (by decide +kernel) (get_st1 (get_st1 (get_st1 (get_st1 (get_st1 rfl (by decide) (fun q => tg2 q.2)) (by decide) (fun q => absurd q.1 (by decide))) (by decide) (fun q => absurd q.1 (by decide))) (by decide) (fun q => absurd q.1 (by decide))) (by decide) (fun q => absurd q.1 (by decide))) (by decide) ?_
                    refine hw_ld (b := 2) (e := 0) (by decide +kernel) (get_st1 get_st1e (by decide) (fun q => tg0 q.2)) ?_
                    refine hw_ld (b := 3) (e := 0) (by decide +kernel) get_st1e ?_
                    refine hr_call (a0 := 22) (b := 220) (e := 3) (nl := 3) (As := [(0, z164), (0, z165)]) (R := []) 192 rfl (by decide +kernel) rfl rfl (Nat.le_of_ble_eq_true rfl) (Nat.le_of_ble_eq_true rfl) ?_
                    refine hw_mono H ?_
                    rintro r ψ175 y175 ⟨hyx, hr, H⟩
                    subst hyx
                    subst hr
                    refine ⟨hnen, ?_⟩
                    show hw sc (d + 2) 256 156 (jm_st1 (jm_st1 (jm_st1 (jm_st1 (jm_st1 [(0, (2, 192))] 1 (0, z1)) 2 (0, z134)) 3 (0, z135)) 2 (0, z164)) 3 (0, z165)) [] ψ175 y175 Q
                    refine hw_ld (b := 1) (e := 0) (by decide +kernel) (get_st1 (get_st1 (get_st1 (get_st1 get_st1e (by decide) (fun q => tg0 q.2)) (by decide) (fun q => absurd q.1 (by decide))) (by decide) (fun q => tg0 q.2)) (by decide) (fun q => absurd q.1 (by decide))) ?_
                    refine hw_k (c := 2) (b := 0) (e := 1) (by decide +kernel) ?_
                    obtain ⟨hz176, hy176, ht176, hf176⟩ := H
                    refine hw_if2 (a0 := 0) (b := 1) (e := 172) (by decide +kernel) hz176 hy176 (fun q => ?_) (fun q => ?_)
                    · have H := ht176 q
                      exact hw_vret (a0 := 0) (e := 0) (by decide +kernel) H
                    · have H := hf176 q
                      refine hw_ald (b := 0) (e := 0) (by decide +kernel) (get_st1 (get_st1 (get_st1 (get_st1 (get_st1 rfl (by decide) (fun q => tg2 q.2)) (by decide) (fun q => absurd q.1 (by decide))) (by decide) (fun q => absurd q.1 (by decide))) (by decide) (fun q => absurd q.1 (by decide))) (by decide) (fun q => absurd q.1 (by decide))) (by decide) ?_
                      refine hr_call (a0 := 22) (b := 222) (e := 1) (nl := 1) (As := []) (R := []) 192 rfl (by decide +kernel) rfl rfl (Nat.le_of_ble_eq_true rfl) (Nat.le_of_ble_eq_true rfl) ?_
                      refine hw_mono H ?_
                      rintro r ψ178 y178 ⟨hyx, hψx, z178, hr, H⟩
                      subst hyx
                      subst hψx
                      subst hr
                      refine ⟨hne0, ?_⟩
                      show hw sc (d + 2) 256 165 (jm_st1 (jm_st1 (jm_st1 (jm_st1 (jm_st1 [(0, (2, 192))] 1 (0, z1)) 2 (0, z134)) 3 (0, z135)) 2 (0, z164)) 3 (0, z165)) [(0, z178)] ψ175 y178 Q
                      obtain ⟨hz179, ht179, hf179⟩ := H
                      refine hw_if (a0 := 0) (b := 1) (e := 172) (by decide +kernel) hz179 (fun q => ?_) (fun q => ?_)
                      · have H := ht179 q
                        exact hw_vret (a0 := 0) (e := 0) (by decide +kernel) H
                      · have H := hf179 q
                        refine hw_ald (b := 0) (e := 0) (by decide +kernel) (get_st1 (get_st1 (get_st1 (get_st1 (get_st1 rfl (by decide) (fun q => tg2 q.2)) (by decide) (fun q => absurd q.1 (by decide))) (by decide) (fun q => absurd q.1 (by decide))) (by decide) (fun q => absurd q.1 (by decide))) (by decide) (fun q => absurd q.1 (by decide))) (by decide) ?_
                        refine hr_call (a0 := 22) (b := 223) (e := 1) (nl := 2) (As := []) (R := []) 192 rfl (by decide +kernel) rfl rfl (Nat.le_of_ble_eq_true rfl) (Nat.le_of_ble_eq_true rfl) ?_
                        refine hw_mono H ?_
                        rintro r ψ181 y181 ⟨hyx, hr, H⟩
                        subst hyx
                        subst hr
                        refine ⟨hnen, ?_⟩
                        show hw sc (d + 2) 256 172 (jm_st1 (jm_st1 (jm_st1 (jm_st1 (jm_st1 [(0, (2, 192))] 1 (0, z1)) 2 (0, z134)) 3 (0, z135)) 2 (0, z164)) 3 (0, z165)) [] ψ181 y181 Q
                        exact hw_vret (a0 := 0) (e := 0) (by decide +kernel) H
          · have H := hf139 q
            refine hw_ald (b := 0) (e := 0) (by decide +kernel) (get_st1 (get_st1 (get_st1 rfl (by decide) (fun q => tg2 q.2)) (by decide) (fun q => absurd q.1 (by decide))) (by decide) (fun q => absurd q.1 (by decide))) (by decide) ?_
            refine hr_gr (w := 194) (b := 12) (e := 6) 192 rfl (by decide +kernel) ?_
            refine hw_k (c := 112) (b := 1) (e := 2) (by decide +kernel) ?_
            refine hw_ld (b := 2) (e := 0) (by decide +kernel) (get_st1 get_st1e (by decide) (fun q => tg0 q.2)) ?_
            refine hw_bin (w := 112 + z134) (a0 := 0) (b := 0) (e := 0) (by decide +kernel) rfl ?_
            refine hw_ld (b := 3) (e := 0) (by decide +kernel) get_st1e ?_
            refine hw_k (c := 1) (b := 0) (e := 1) (by decide +kernel) ?_
            refine hw_bin (w := z135 + 1) (a0 := 0) (b := 0) (e := 0) (by decide +kernel) rfl ?_
            obtain ⟨hl183, hu183, H⟩ := H
            refine hr_as (a0 := 0) (e := 4) (n := 361) 194 rfl (by decide +kernel) hl183 hu183 ?_
            refine hw_ld (b := 1) (e := 0) (by decide +kernel) (get_st1 (get_st1 get_st1e (by decide) (fun q => tg0 q.2)) (by decide) (fun q => absurd q.1 (by decide))) ?_
            refine hw_k (c := 1) (b := 0) (e := 1) (by decide +kernel) ?_
            obtain ⟨hz184, hy184, ht184, hf184⟩ := H
            refine hw_if2 (a0 := 0) (b := 1) (e := 156) (by decide +kernel) hz184 hy184 (fun q => ?_) (fun q => ?_)
            · have H := ht184 q
              refine hw_ld (b := 1) (e := 0) (by decide +kernel) (get_st1 (get_st1 get_st1e (by decide) (fun q => tg0 q.2)) (by decide) (fun q => absurd q.1 (by decide))) ?_
              refine hw_k (c := 2) (b := 0) (e := 1) (by decide +kernel) ?_
              obtain ⟨hz185, hy185, ht185, hf185⟩ := H
              refine hw_if2 (a0 := 0) (b := 1) (e := 172) (by decide +kernel) hz185 hy185 (fun q => ?_) (fun q => ?_)
              · have H := ht185 q
                exact hw_vret (a0 := 0) (e := 0) (by decide +kernel) H
              · have H := hf185 q
                refine hw_ald (b := 0) (e := 0) (by decide +kernel) (get_st1 (get_st1 (get_st1 rfl (by decide) (fun q => tg2 q.2)) (by decide) (fun q => absurd q.1 (by decide))) (by decide) (fun q => absurd q.1 (by decide))) (by decide) ?_
                refine hr_call (a0 := 22) (b := 222) (e := 1) (nl := 1) (As := []) (R := []) 192 rfl (by decide +kernel) rfl rfl (Nat.le_of_ble_eq_true rfl) (Nat.le_of_ble_eq_true rfl) ?_
                refine hw_mono H ?_
                rintro r ψ187 y187 ⟨hyx, hψx, z187, hr, H⟩
                subst hyx
                subst hψx
                subst hr
                refine ⟨hne0, ?_⟩
                show hw sc (d + 2) 256 165 (jm_st1 (jm_st1 (jm_st1 [(0, (2, 192))] 1 (0, z1)) 2 (0, z134)) 3 (0, z135)) [(0, z187)] (hf_up ψ135 194 ((112 + z134).toNat) (z135 + 1)) y187 Q
                obtain ⟨hz188, ht188, hf188⟩ := H
                refine hw_if (a0 := 0) (b := 1) (e := 172) (by decide +kernel) hz188 (fun q => ?_) (fun q => ?_)
                · have H := ht188 q
                  exact hw_vret (a0 := 0) (e := 0) (by decide +kernel) H
                · have H := hf188 q
                  refine hw_ald (b := 0) (e := 0) (by decide +kernel) (get_st1 (get_st1 (get_st1 rfl (by decide) (fun q => tg2 q.2)) (by decide) (fun q => absurd q.1 (by decide))) (by decide) (fun q => absurd q.1 (by decide))) (by decide) ?_
                  refine hr_call (a0 := 22) (b := 223) (e := 1) (nl := 2) (As := []) (R := []) 192 rfl (by decide +kernel) rfl rfl (Nat.le_of_ble_eq_true rfl) (Nat.le_of_ble_eq_true rfl) ?_
                  refine hw_mono H ?_
                  rintro r ψ190 y190 ⟨hyx, hr, H⟩
                  subst hyx
                  subst hr
                  refine ⟨hnen, ?_⟩
                  show hw sc (d + 2) 256 172 (jm_st1 (jm_st1 (jm_st1 [(0, (2, 192))] 1 (0, z1)) 2 (0, z134)) 3 (0, z135)) [] ψ190 y190 Q
                  exact hw_vret (a0 := 0) (e := 0) (by decide +kernel) H
            · have H := hf184 q
              refine hw_ald (b := 0) (e := 0) (by decide +kernel) (get_st1 (get_st1 (get_st1 rfl (by decide) (fun q => tg2 q.2)) (by decide) (fun q => absurd q.1 (by decide))) (by decide) (fun q => absurd q.1 (by decide))) (by decide) ?_
              refine hr_gr (w := 194) (b := 12) (e := 6) 192 rfl (by decide +kernel) ?_
              refine hw_k (c := 3) (b := 0) (e := 1) (by decide +kernel) ?_
              refine hr_al (b := 0) (a0 := 0) (e := 0) (n := 361) (w := (hf_up ψ135 194 ((112 + z134).toNat) (z135 + 1)) 194 3) 194 rfl (by decide +kernel) (by decide) (by decide) (by decide) rfl ?_
              obtain ⟨hz192, ht192, hf192⟩ := H
              refine hw_if (a0 := 0) (b := 5) (e := 156) (by decide +kernel) hz192 (fun q => ?_) (fun q => ?_)
              · have H := ht192 q
                refine hw_ld (b := 1) (e := 0) (by decide +kernel) (get_st1 (get_st1 get_st1e (by decide) (fun q => tg0 q.2)) (by decide) (fun q => absurd q.1 (by decide))) ?_
                refine hw_k (c := 2) (b := 0) (e := 1) (by decide +kernel) ?_
                obtain ⟨hz193, hy193, ht193, hf193⟩ := H
                refine hw_if2 (a0 := 0) (b := 1) (e := 172) (by decide +kernel) hz193 hy193 (fun q => ?_) (fun q => ?_)
                · have H := ht193 q
                  exact hw_vret (a0 := 0) (e := 0) (by decide +kernel) H
                · have H := hf193 q
                  refine hw_ald (b := 0) (e := 0) (by decide +kernel) (get_st1 (get_st1 (get_st1 rfl (by decide) (fun q => tg2 q.2)) (by decide) (fun q => absurd q.1 (by decide))) (by decide) (fun q => absurd q.1 (by decide))) (by decide) ?_
                  refine hr_call (a0 := 22) (b := 222) (e := 1) (nl := 1) (As := []) (R := []) 192 rfl (by decide +kernel) rfl rfl (Nat.le_of_ble_eq_true rfl) (Nat.le_of_ble_eq_true rfl) ?_
                  refine hw_mono H ?_
                  rintro r ψ195 y195 ⟨hyx, hψx, z195, hr, H⟩
                  subst hyx
                  subst hψx
                  subst hr
                  refine ⟨hne0, ?_⟩
                  show hw sc (d + 2) 256 165 (jm_st1 (jm_st1 (jm_st1 [(0, (2, 192))] 1 (0, z1)) 2 (0, z134)) 3 (0, z135)) [(0, z195)] (hf_up ψ135 194 ((112 + z134).toNat) (z135 + 1)) y195 Q
                  obtain ⟨hz196, ht196, hf196⟩ := H
                  refine hw_if (a0 := 0) (b := 1) (e := 172) (by decide +kernel) hz196 (fun q => ?_) (fun q => ?_)
                  · have H := ht196 q
                    exact hw_vret (a0 := 0) (e := 0) (by decide +kernel) H
                  · have H := hf196 q
                    refine hw_ald (b := 0) (e := 0) (by decide +kernel) (get_st1 (get_st1 (get_st1 rfl (by decide) (fun q => tg2 q.2)) (by decide) (fun q => absurd q.1 (by decide))) (by decide) (fun q => absurd q.1 (by decide))) (by decide) ?_
                    refine hr_call (a0 := 22) (b := 223) (e := 1) (nl := 2) (As := []) (R := []) 192 rfl (by decide +kernel) rfl rfl (Nat.le_of_ble_eq_true rfl) (Nat.le_of_ble_eq_true rfl) ?_
                    refine hw_mono H ?_
                    rintro r ψ198 y198 ⟨hyx, hr, H⟩
                    subst hyx
                    subst hr
                    refine ⟨hnen, ?_⟩
                    show hw sc (d + 2) 256 172 (jm_st1 (jm_st1 (jm_st1 [(0, (2, 192))] 1 (0, z1)) 2 (0, z134)) 3 (0, z135)) [] ψ198 y198 Q
                    exact hw_vret (a0 := 0) (e := 0) (by decide +kernel) H
              · have H := hf192 q
                refine hw_ald (b := 0) (e := 0) (by decide +kernel) (get_st1 (get_st1 (get_st1 rfl (by decide) (fun q => tg2 q.2)) (by decide) (fun q => absurd q.1 (by decide))) (by decide) (fun q => absurd q.1 (by decide))) (by decide) ?_
                refine hr_gr (w := 194) (b := 12) (e := 6) 192 rfl (by decide +kernel) ?_
                refine hw_k (c := 2) (b := 0) (e := 1) (by decide +kernel) ?_
                refine hr_al (b := 0) (a0 := 0) (e := 0) (n := 361) (w := (hf_up ψ135 194 ((112 + z134).toNat) (z135 + 1)) 194 2) 194 rfl (by decide +kernel) (by decide) (by decide) (by decide) rfl ?_
                obtain ⟨hz200, ht200, hf200⟩ := H
                refine hw_if (a0 := 0) (b := 5) (e := 156) (by decide +kernel) hz200 (fun q => ?_) (fun q => ?_)
                · have H := ht200 q
                  refine hw_ld (b := 1) (e := 0) (by decide +kernel) (get_st1 (get_st1 get_st1e (by decide) (fun q => tg0 q.2)) (by decide) (fun q => absurd q.1 (by decide))) ?_
                  refine hw_k (c := 2) (b := 0) (e := 1) (by decide +kernel) ?_
                  obtain ⟨hz201, hy201, ht201, hf201⟩ := H
                  refine hw_if2 (a0 := 0) (b := 1) (e := 172) (by decide +kernel) hz201 hy201 (fun q => ?_) (fun q => ?_)
                  · have H := ht201 q
                    exact hw_vret (a0 := 0) (e := 0) (by decide +kernel) H
                  · have H := hf201 q
                    refine hw_ald (b := 0) (e := 0) (by decide +kernel) (get_st1 (get_st1 (get_st1 rfl (by decide) (fun q => tg2 q.2)) (by decide) (fun q => absurd q.1 (by decide))) (by decide) (fun q => absurd q.1 (by decide))) (by decide) ?_
                    refine hr_call (a0 := 22) (b := 222) (e := 1) (nl := 1) (As := []) (R := []) 192 rfl (by decide +kernel) rfl rfl (Nat.le_of_ble_eq_true rfl) (Nat.le_of_ble_eq_true rfl) ?_
                    refine hw_mono H ?_
                    rintro r ψ203 y203 ⟨hyx, hψx, z203, hr, H⟩
                    subst hyx
                    subst hψx
                    subst hr
                    refine ⟨hne0, ?_⟩
                    show hw sc (d + 2) 256 165 (jm_st1 (jm_st1 (jm_st1 [(0, (2, 192))] 1 (0, z1)) 2 (0, z134)) 3 (0, z135)) [(0, z203)] (hf_up ψ135 194 ((112 + z134).toNat) (z135 + 1)) y203 Q
                    obtain ⟨hz204, ht204, hf204⟩ := H
                    refine hw_if (a0 := 0) (b := 1) (e := 172) (by decide +kernel) hz204 (fun q => ?_) (fun q => ?_)
                    · have H := ht204 q
                      exact hw_vret (a0 := 0) (e := 0) (by decide +kernel) H
                    · have H := hf204 q
                      refine hw_ald (b := 0) (e := 0) (by decide +kernel) (get_st1 (get_st1 (get_st1 rfl (by decide) (fun q => tg2 q.2)) (by decide) (fun q => absurd q.1 (by decide))) (by decide) (fun q => absurd q.1 (by decide))) (by decide) ?_
                      refine hr_call (a0 := 22) (b := 223) (e := 1) (nl := 2) (As := []) (R := []) 192 rfl (by decide +kernel) rfl rfl (Nat.le_of_ble_eq_true rfl) (Nat.le_of_ble_eq_true rfl) ?_
                      refine hw_mono H ?_
                      rintro r ψ206 y206 ⟨hyx, hr, H⟩
                      subst hyx
                      subst hr
                      refine ⟨hnen, ?_⟩
                      show hw sc (d + 2) 256 172 (jm_st1 (jm_st1 (jm_st1 [(0, (2, 192))] 1 (0, z1)) 2 (0, z134)) 3 (0, z135)) [] ψ206 y206 Q
                      exact hw_vret (a0 := 0) (e := 0) (by decide +kernel) H
                · have H := hf200 q
                  refine hw_ald (b := 0) (e := 0) (by decide +kernel) (get_st1 (get_st1 (get_st1 rfl (by decide) (fun q => tg2 q.2)) (by decide) (fun q => absurd q.1 (by decide))) (by decide) (fun q => absurd q.1 (by decide))) (by decide) ?_
                  refine hw_ald (b := 0) (e := 0) (by decide +kernel) (get_st1 (get_st1 (get_st1 rfl (by decide) (fun q => tg2 q.2)) (by decide) (fun q => absurd q.1 (by decide))) (by decide) (fun q => absurd q.1 (by decide))) (by decide) ?_
                  refine hr_gr (w := 194) (b := 12) (e := 6) 192 rfl (by decide +kernel) ?_
                  refine hw_k (c := 3) (b := 0) (e := 1) (by decide +kernel) ?_
                  refine hr_al (b := 0) (a0 := 0) (e := 0) (n := 361) (w := (hf_up ψ135 194 ((112 + z134).toNat) (z135 + 1)) 194 3) 194 rfl (by decide +kernel) (by decide) (by decide) (by decide) rfl ?_
                  refine hr_call (a0 := 22) (b := 257) (e := 2) (nl := 2) (As := [(0, (hf_up ψ135 194 ((112 + z134).toNat) (z135 + 1)) 194 3)]) (R := []) 192 rfl (by decide +kernel) rfl rfl (Nat.le_of_ble_eq_true rfl) (Nat.le_of_ble_eq_true rfl) ?_
                  refine hw_mono H ?_
                  rintro r ψ208 y208 ⟨hyx, z208, hr, H⟩
                  subst hyx
                  subst hr
                  refine ⟨hne0, ?_⟩
                  show hw sc (d + 2) 256 130 (jm_st1 (jm_st1 (jm_st1 [(0, (2, 192))] 1 (0, z1)) 2 (0, z134)) 3 (0, z135)) [(0, z208)] ψ208 y208 Q
                  refine hw_st (L' := (jm_st1 (jm_st1 (jm_st1 (jm_st1 [(0, (2, 192))] 1 (0, z1)) 2 (0, z134)) 3 (0, z135)) 2 (0, z208))) (b := 2) (e := 0) (by decide +kernel) rfl ?_
                  refine hw_ald (b := 0) (e := 0) (by decide +kernel) (get_st1 (get_st1 (get_st1 (get_st1 rfl (by decide) (fun q => tg2 q.2)) (by decide) (fun q => absurd q.1 (by decide))) (by decide) (fun q => absurd q.1 (by decide))) (by decide) (fun q => absurd q.1 (by decide))) (by decide) ?_
                  refine hw_ald (b := 0) (e := 0) (by decide +kernel) (get_st1 (get_st1 (get_st1 (get_st1 rfl (by decide) (fun q => tg2 q.2)) (by decide) (fun q => absurd q.1 (by decide))) (by decide) (fun q => absurd q.1 (by decide))) (by decide) (fun q => absurd q.1 (by decide))) (by decide) ?_
                  refine hr_gr (w := 194) (b := 12) (e := 6) 192 rfl (by decide +kernel) ?_
                  refine hw_k (c := 2) (b := 0) (e := 1) (by decide +kernel) ?_
                  refine hr_al (b := 0) (a0 := 0) (e := 0) (n := 361) (w := ψ208 194 2) 194 rfl (by decide +kernel) (by decide) (by decide) (by decide) rfl ?_
                  refine hr_call (a0 := 22) (b := 257) (e := 2) (nl := 2) (As := [(0, ψ208 194 2)]) (R := []) 192 rfl (by decide +kernel) rfl rfl (Nat.le_of_ble_eq_true rfl) (Nat.le_of_ble_eq_true rfl) ?_
                  refine hw_mono H ?_
                  rintro r ψ209 y209 ⟨hyx, z209, hr, H⟩
                  subst hyx
                  subst hr
                  refine ⟨hne0, ?_⟩
                  show hw sc (d + 2) 256 141 (jm_st1 (jm_st1 (jm_st1 (jm_st1 [(0, (2, 192))] 1 (0, z1)) 2 (0, z134)) 3 (0, z135)) 2 (0, z208)) [(0, z209)] ψ209 y209 Q
                  refine hw_st (L' := (jm_st1 (jm_st1 (jm_st1 (jm_st1 (jm_st1 [(0, (2, 192))] 1 (0, z1)) 2 (0, z134)) 3 (0, z135)) 2 (0, z208)) 3 (0, z209))) (b := 3) (e := 0) (by decide +kernel) rfl ?_
                  refine hw_ald (b := 0) (e := 0) (by decide +kernel) (get_st1 (get_st1 (get_st1 (get_st1 (get_st1 rfl (by decide) (fun q => tg2 q.2)) (by decide) (fun q => absurd q.1 (by decide))) (by decide) (fun q => absurd q.1 (by decide))) (by decide) (fun q => absurd q.1 (by decide))) (by decide) (fun q => absurd q.1 (by decide))) (by decide) ?_
                  refine hw_ld (b := 2) (e := 0) (by decide +kernel) (get_st1 get_st1e (by decide) (fun q => tg0 q.2)) ?_
                  refine hr_call (a0 := 22) (b := 219) (e := 2) (nl := 2) (As := [(0, z208)]) (R := []) 192 rfl (by decide +kernel) rfl rfl (Nat.le_of_ble_eq_true rfl) (Nat.le_of_ble_eq_true rfl) ?_
                  refine hw_mono H ?_
                  rintro r ψ210 y210 ⟨hyx, hψx, z210, hr, H⟩
                  subst hyx
                  subst hψx
                  subst hr
                  refine ⟨hne0, ?_⟩
                  show hw sc (d + 2) 256 147 (jm_st1 (jm_st1 (jm_st1 (jm_st1 (jm_st1 [(0, (2, 192))] 1 (0, z1)) 2 (0, z134)) 3 (0, z135)) 2 (0, z208)) 3 (0, z209)) [(0, z210)] ψ209 y210 Q
                  obtain ⟨hz211, ht211, hf211⟩ := H
                  refine hw_if (a0 := 0) (b := 1) (e := 156) (by decide +kernel) hz211 (fun q => ?_) (fun q => ?_)
                  · have H := ht211 q
                    refine hw_ld (b := 1) (e := 0) (by decide +kernel) (get_st1 (get_st1 (get_st1 (get_st1 get_st1e (by decide) (fun q => tg0 q.2)) (by decide) (fun q => absurd q.1 (by decide))) (by decide) (fun q => tg0 q.2)) (by decide) (fun q => absurd q.1 (by decide))) ?_
                    refine hw_k (c := 2) (b := 0) (e := 1) (by decide +kernel) ?_
                    obtain ⟨hz212, hy212, ht212, hf212⟩ := H
                    refine hw_if2 (a0 := 0) (b := 1) (e := 172) (by decide +kernel) hz212 hy212 (fun q => ?_) (fun q => ?_)
                    · have H := ht212 q
                      exact hw_vret (a0 := 0) (e := 0) (by decide +kernel) H
                    · have H := hf212 q
                      refine hw_ald (b := 0) (e := 0) (by decide +kernel) (get_st1 (get_st1 (get_st1 (get_st1 (get_st1 rfl (by decide) (fun q => tg2 q.2)) (by decide) (fun q => absurd q.1 (by decide))) (by decide) (fun q => absurd q.1 (by decide))) (by decide) (fun q => absurd q.1 (by decide))) (by decide) (fun q => absurd q.1 (by decide))) (by decide) ?_
                      refine hr_call (a0 := 22) (b := 222) (e := 1) (nl := 1) (As := []) (R := []) 192 rfl (by decide +kernel) rfl rfl (Nat.le_of_ble_eq_true rfl) (Nat.le_of_ble_eq_true rfl) ?_
                      refine hw_mono H ?_
                      rintro r ψ214 y214 ⟨hyx, hψx, z214, hr, H⟩
                      subst hyx
                      subst hψx
                      subst hr
                      refine ⟨hne0, ?_⟩
                      show hw sc (d + 2) 256 165 (jm_st1 (jm_st1 (jm_st1 (jm_st1 (jm_st1 [(0, (2, 192))] 1 (0, z1)) 2 (0, z134)) 3 (0, z135)) 2 (0, z208)) 3 (0, z209)) [(0, z214)] ψ209 y214 Q
                      obtain ⟨hz215, ht215, hf215⟩ := H
                      refine hw_if (a0 := 0) (b := 1) (e := 172) (by decide +kernel) hz215 (fun q => ?_) (fun q => ?_)
                      · have H := ht215 q
                        exact hw_vret (a0 := 0) (e := 0) (by decide +kernel) H
                      · have H := hf215 q
                        refine hw_ald (b := 0) (e := 0) (by decide +kernel) (get_st1 (get_st1 (get_st1 (get_st1 (get_st1 rfl (by decide) (fun q => tg2 q.2)) (by decide) (fun q => absurd q.1 (by decide))) (by decide) (fun q => absurd q.1 (by decide))) (by decide) (fun q => absurd q.1 (by decide))) (by decide) (fun q => absurd q.1 (by decide))) (by decide) ?_
                        refine hr_call (a0 := 22) (b := 223) (e := 1) (nl := 2) (As := []) (R := []) 192 rfl (by decide +kernel) rfl rfl (Nat.le_of_ble_eq_true rfl) (Nat.le_of_ble_eq_true rfl) ?_
                        refine hw_mono H ?_
                        rintro r ψ217 y217 ⟨hyx, hr, H⟩
                        subst hyx
                        subst hr
                        refine ⟨hnen, ?_⟩
                        show hw sc (d + 2) 256 172 (jm_st1 (jm_st1 (jm_st1 (jm_st1 (jm_st1 [(0, (2, 192))] 1 (0, z1)) 2 (0, z134)) 3 (0, z135)) 2 (0, z208)) 3 (0, z209)) [] ψ217 y217 Q
                        exact hw_vret (a0 := 0) (e := 0) (by decide +kernel) H
                  · have H := hf211 q
                    refine hw_ald (b := 0) (e := 0) (by decide +kernel) (get_st1 (get_st1 (get_st1 (get_st1 (get_st1 rfl (by decide) (fun q => tg2 q.2)) (by decide) (fun q => absurd q.1 (by decide))) (by decide) (fun q => absurd q.1 (by decide))) (by decide) (fun q => absurd q.1 (by decide))) (by decide) (fun q => absurd q.1 (by decide))) (by decide) ?_
                    refine hw_ld (b := 2) (e := 0) (by decide +kernel) (get_st1 get_st1e (by decide) (fun q => tg0 q.2)) ?_
                    refine hw_ld (b := 3) (e := 0) (by decide +kernel) get_st1e ?_
                    refine hr_call (a0 := 22) (b := 220) (e := 3) (nl := 3) (As := [(0, z208), (0, z209)]) (R := []) 192 rfl (by decide +kernel) rfl rfl (Nat.le_of_ble_eq_true rfl) (Nat.le_of_ble_eq_true rfl) ?_
                    refine hw_mono H ?_
                    rintro r ψ219 y219 ⟨hyx, hr, H⟩
                    subst hyx
                    subst hr
                    refine ⟨hnen, ?_⟩
                    show hw sc (d + 2) 256 156 (jm_st1 (jm_st1 (jm_st1 (jm_st1 (jm_st1 [(0, (2, 192))] 1 (0, z1)) 2 (0, z134)) 3 (0, z135)) 2 (0, z208)) 3 (0, z209)) [] ψ219 y219 Q
                    refine hw_ld (b := 1) (e := 0) (by decide +kernel) (get_st1 (get_st1 (get_st1 (get_st1 get_st1e (by decide) (fun q => tg0 q.2)) (by decide) (fun q => absurd q.1 (by decide))) (by decide) (fun q => tg0 q.2)) (by decide) (fun q => absurd q.1 (by decide))) ?_
                    refine hw_k (c := 2) (b := 0) (e := 1) (by decide +kernel) ?_
                    obtain ⟨hz220, hy220, ht220, hf220⟩ := H
                    refine hw_if2 (a0 := 0) (b := 1) (e := 172) (by decide +kernel) hz220 hy220 (fun q => ?_) (fun q => ?_)
                    · have H := ht220 q
                      exact hw_vret (a0 := 0) (e := 0) (by decide +kernel) H
                    · have H := hf220 q
                      refine hw_ald (b := 0) (e := 0) (by decide +kernel) (get_st1 (get_st1 (get_st1 (get_st1 (get_st1 rfl (by decide) (fun q => tg2 q.2)) (by decide) (fun q => absurd q.1 (by decide))) (by decide) (fun q => absurd q.1 (by decide))) (by decide) (fun q => absurd q.1 (by decide))) (by decide) (fun q => absurd q.1 (by decide))) (by decide) ?_
                      refine hr_call (a0 := 22) (b := 222) (e := 1) (nl := 1) (As := []) (R := []) 192 rfl (by decide +kernel) rfl rfl (Nat.le_of_ble_eq_true rfl) (Nat.le_of_ble_eq_true rfl) ?_
                      refine hw_mono H ?_
                      rintro r ψ222 y222 ⟨hyx, hψx, z222, hr, H⟩
                      subst hyx
                      subst hψx
                      subst hr
                      refine ⟨hne0, ?_⟩
                      show hw sc (d + 2) 256 165 (jm_st1 (jm_st1 (jm_st1 (jm_st1 (jm_st1 [(0, (2, 192))] 1 (0, z1)) 2 (0, z134)) 3 (0, z135)) 2 (0, z208)) 3 (0, z209)) [(0, z222)] ψ219 y222 Q
                      obtain ⟨hz223, ht223, hf223⟩ := H
                      refine hw_if (a0 := 0) (b := 1) (e := 172) (by decide +kernel) hz223 (fun q => ?_) (fun q => ?_)
                      · have H := ht223 q
                        exact hw_vret (a0 := 0) (e := 0) (by decide +kernel) H
                      · have H := hf223 q
                        refine hw_ald (b := 0) (e := 0) (by decide +kernel) (get_st1 (get_st1 (get_st1 (get_st1 (get_st1 rfl (by decide) (fun q => tg2 q.2)) (by decide) (fun q => absurd q.1 (by decide))) (by decide) (fun q => absurd q.1 (by decide))) (by decide) (fun q => absurd q.1 (by decide))) (by decide) (fun q => absurd q.1 (by decide))) (by decide) ?_
                        refine hr_call (a0 := 22) (b := 223) (e := 1) (nl := 2) (As := []) (R := []) 192 rfl (by decide +kernel) rfl rfl (Nat.le_of_ble_eq_true rfl) (Nat.le_of_ble_eq_true rfl) ?_
                        refine hw_mono H ?_
                        rintro r ψ225 y225 ⟨hyx, hr, H⟩
                        subst hyx
                        subst hr
                        refine ⟨hnen, ?_⟩
                        show hw sc (d + 2) 256 172 (jm_st1 (jm_st1 (jm_st1 (jm_st1 (jm_st1 [(0, (2, 192))] 1 (0, z1)) 2 (0, z134)) 3 (0, z135)) 2 (0, z208)) 3 (0, z209)) [] ψ225 y225 Q
                        exact hw_vret (a0 := 0) (e := 0) (by decide +kernel) H
        · have H := hf137 q
          refine hw_ald (b := 0) (e := 0) (by decide +kernel) (get_st1 (get_st1 (get_st1 rfl (by decide) (fun q => tg2 q.2)) (by decide) (fun q => absurd q.1 (by decide))) (by decide) (fun q => absurd q.1 (by decide))) (by decide) ?_
          refine hr_gr (w := 194) (b := 12) (e := 6) 192 rfl (by decide +kernel) ?_
          refine hw_k (c := 112) (b := 1) (e := 2) (by decide +kernel) ?_
          refine hw_ld (b := 2) (e := 0) (by decide +kernel) (get_st1 get_st1e (by decide) (fun q => tg0 q.2)) ?_
          refine hw_bin (w := 112 + z134) (a0 := 0) (b := 0) (e := 0) (by decide +kernel) rfl ?_
          refine hw_k (c := 0) (b := 0) (e := 1) (by decide +kernel) ?_
          obtain ⟨hl227, hu227, H⟩ := H
          refine hr_as (a0 := 0) (e := 4) (n := 361) 194 rfl (by decide +kernel) hl227 hu227 ?_
          refine hw_goto (a0 := 0) (b := 0) (e := 97) (by decide +kernel) ?_
          refine hw_ld (b := 1) (e := 0) (by decide +kernel) (get_st1 (get_st1 get_st1e (by decide) (fun q => tg0 q.2)) (by decide) (fun q => absurd q.1 (by decide))) ?_
          refine hw_k (c := 1) (b := 0) (e := 1) (by decide +kernel) ?_
          obtain ⟨hz228, hy228, ht228, hf228⟩ := H
          refine hw_if2 (a0 := 0) (b := 1) (e := 156) (by decide +kernel) hz228 hy228 (fun q => ?_) (fun q => ?_)
          · have H := ht228 q
            refine hw_ld (b := 1) (e := 0) (by decide +kernel) (get_st1 (get_st1 get_st1e (by decide) (fun q => tg0 q.2)) (by decide) (fun q => absurd q.1 (by decide))) ?_
            refine hw_k (c := 2) (b := 0) (e := 1) (by decide +kernel) ?_
            obtain ⟨hz229, hy229, ht229, hf229⟩ := H
            refine hw_if2 (a0 := 0) (b := 1) (e := 172) (by decide +kernel) hz229 hy229 (fun q => ?_) (fun q => ?_)
            · have H := ht229 q
              exact hw_vret (a0 := 0) (e := 0) (by decide +kernel) H
            · have H := hf229 q
              refine hw_ald (b := 0) (e := 0) (by decide +kernel) (get_st1 (get_st1 (get_st1 rfl (by decide) (fun q => tg2 q.2)) (by decide) (fun q => absurd q.1 (by decide))) (by decide) (fun q => absurd q.1 (by decide))) (by decide) ?_
              refine hr_call (a0 := 22) (b := 222) (e := 1) (nl := 1) (As := []) (R := []) 192 rfl (by decide +kernel) rfl rfl (Nat.le_of_ble_eq_true rfl) (Nat.le_of_ble_eq_true rfl) ?_
              refine hw_mono H ?_
              rintro r ψ231 y231 ⟨hyx, hψx, z231, hr, H⟩
              subst hyx
              subst hψx
              subst hr
              refine ⟨hne0, ?_⟩
              show hw sc (d + 2) 256 165 (jm_st1 (jm_st1 (jm_st1 [(0, (2, 192))] 1 (0, z1)) 2 (0, z134)) 3 (0, z135)) [(0, z231)] (hf_up ψ135 194 ((112 + z134).toNat) 0) y231 Q
              obtain ⟨hz232, ht232, hf232⟩ := H
              refine hw_if (a0 := 0) (b := 1) (e := 172) (by decide +kernel) hz232 (fun q => ?_) (fun q => ?_)
              · have H := ht232 q
                exact hw_vret (a0 := 0) (e := 0) (by decide +kernel) H
              · have H := hf232 q
                refine hw_ald (b := 0) (e := 0) (by decide +kernel) (get_st1 (get_st1 (get_st1 rfl (by decide) (fun q => tg2 q.2)) (by decide) (fun q => absurd q.1 (by decide))) (by decide) (fun q => absurd q.1 (by decide))) (by decide) ?_
                refine hr_call (a0 := 22) (b := 223) (e := 1) (nl := 2) (As := []) (R := []) 192 rfl (by decide +kernel) rfl rfl (Nat.le_of_ble_eq_true rfl) (Nat.le_of_ble_eq_true rfl) ?_
                refine hw_mono H ?_
                rintro r ψ234 y234 ⟨hyx, hr, H⟩
                subst hyx
                subst hr
                refine ⟨hnen, ?_⟩
                show hw sc (d + 2) 256 172 (jm_st1 (jm_st1 (jm_st1 [(0, (2, 192))] 1 (0, z1)) 2 (0, z134)) 3 (0, z135)) [] ψ234 y234 Q
                exact hw_vret (a0 := 0) (e := 0) (by decide +kernel) H
          · have H := hf228 q
            refine hw_ald (b := 0) (e := 0) (by decide +kernel) (get_st1 (get_st1 (get_st1 rfl (by decide) (fun q => tg2 q.2)) (by decide) (fun q => absurd q.1 (by decide))) (by decide) (fun q => absurd q.1 (by decide))) (by decide) ?_
            refine hr_gr (w := 194) (b := 12) (e := 6) 192 rfl (by decide +kernel) ?_
            refine hw_k (c := 3) (b := 0) (e := 1) (by decide +kernel) ?_
            refine hr_al (b := 0) (a0 := 0) (e := 0) (n := 361) (w := (hf_up ψ135 194 ((112 + z134).toNat) 0) 194 3) 194 rfl (by decide +kernel) (by decide) (by decide) (by decide) rfl ?_
            obtain ⟨hz236, ht236, hf236⟩ := H
            refine hw_if (a0 := 0) (b := 5) (e := 156) (by decide +kernel) hz236 (fun q => ?_) (fun q => ?_)
            · have H := ht236 q
              refine hw_ld (b := 1) (e := 0) (by decide +kernel) (get_st1 (get_st1 get_st1e (by decide) (fun q => tg0 q.2)) (by decide) (fun q => absurd q.1 (by decide))) ?_
              refine hw_k (c := 2) (b := 0) (e := 1) (by decide +kernel) ?_
              obtain ⟨hz237, hy237, ht237, hf237⟩ := H
              refine hw_if2 (a0 := 0) (b := 1) (e := 172) (by decide +kernel) hz237 hy237 (fun q => ?_) (fun q => ?_)
              · have H := ht237 q
                exact hw_vret (a0 := 0) (e := 0) (by decide +kernel) H
              · have H := hf237 q
                refine hw_ald (b := 0) (e := 0) (by decide +kernel) (get_st1 (get_st1 (get_st1 rfl (by decide) (fun q => tg2 q.2)) (by decide) (fun q => absurd q.1 (by decide))) (by decide) (fun q => absurd q.1 (by decide))) (by decide) ?_
                refine hr_call (a0 := 22) (b := 222) (e := 1) (nl := 1) (As := []) (R := []) 192 rfl (by decide +kernel) rfl rfl (Nat.le_of_ble_eq_true rfl) (Nat.le_of_ble_eq_true rfl) ?_
                refine hw_mono H ?_
                rintro r ψ239 y239 ⟨hyx, hψx, z239, hr, H⟩
                subst hyx
                subst hψx
                subst hr
                refine ⟨hne0, ?_⟩
                show hw sc (d + 2) 256 165 (jm_st1 (jm_st1 (jm_st1 [(0, (2, 192))] 1 (0, z1)) 2 (0, z134)) 3 (0, z135)) [(0, z239)] (hf_up ψ135 194 ((112 + z134).toNat) 0) y239 Q
                obtain ⟨hz240, ht240, hf240⟩ := H
                refine hw_if (a0 := 0) (b := 1) (e := 172) (by decide +kernel) hz240 (fun q => ?_) (fun q => ?_)
                · have H := ht240 q
                  exact hw_vret (a0 := 0) (e := 0) (by decide +kernel) H
                · have H := hf240 q
                  refine hw_ald (b := 0) (e := 0) (by decide +kernel) (get_st1 (get_st1 (get_st1 rfl (by decide) (fun q => tg2 q.2)) (by decide) (fun q => absurd q.1 (by decide))) (by decide) (fun q => absurd q.1 (by decide))) (by decide) ?_
                  refine hr_call (a0 := 22) (b := 223) (e := 1) (nl := 2) (As := []) (R := []) 192 rfl (by decide +kernel) rfl rfl (Nat.le_of_ble_eq_true rfl) (Nat.le_of_ble_eq_true rfl) ?_
                  refine hw_mono H ?_
                  rintro r ψ242 y242 ⟨hyx, hr, H⟩
                  subst hyx
                  subst hr
                  refine ⟨hnen, ?_⟩
                  show hw sc (d + 2) 256 172 (jm_st1 (jm_st1 (jm_st1 [(0, (2, 192))] 1 (0, z1)) 2 (0, z134)) 3 (0, z135)) [] ψ242 y242 Q
                  exact hw_vret (a0 := 0) (e := 0) (by decide +kernel) H
            · have H := hf236 q
              refine hw_ald (b := 0) (e := 0) (by decide +kernel) (get_st1 (get_st1 (get_st1 rfl (by decide) (fun q => tg2 q.2)) (by decide) (fun q => absurd q.1 (by decide))) (by decide) (fun q => absurd q.1 (by decide))) (by decide) ?_
              refine hr_gr (w := 194) (b := 12) (e := 6) 192 rfl (by decide +kernel) ?_
              refine hw_k (c := 2) (b := 0) (e := 1) (by decide +kernel) ?_
              refine hr_al (b := 0) (a0 := 0) (e := 0) (n := 361) (w := (hf_up ψ135 194 ((112 + z134).toNat) 0) 194 2) 194 rfl (by decide +kernel) (by decide) (by decide) (by decide) rfl ?_
              obtain ⟨hz244, ht244, hf244⟩ := H
              refine hw_if (a0 := 0) (b := 5) (e := 156) (by decide +kernel) hz244 (fun q => ?_) (fun q => ?_)
              · have H := ht244 q
                refine hw_ld (b := 1) (e := 0) (by decide +kernel) (get_st1 (get_st1 get_st1e (by decide) (fun q => tg0 q.2)) (by decide) (fun q => absurd q.1 (by decide))) ?_
                refine hw_k (c := 2) (b := 0) (e := 1) (by decide +kernel) ?_
                obtain ⟨hz245, hy245, ht245, hf245⟩ := H
                refine hw_if2 (a0 := 0) (b := 1) (e := 172) (by decide +kernel) hz245 hy245 (fun q => ?_) (fun q => ?_)
                · have H := ht245 q
                  exact hw_vret (a0 := 0) (e := 0) (by decide +kernel) H
                · have H := hf245 q
                  refine hw_ald (b := 0) (e := 0) (by decide +kernel) (get_st1 (get_st1 (get_st1 rfl (by decide) (fun q => tg2 q.2)) (by decide) (fun q => absurd q.1 (by decide))) (by decide) (fun q => absurd q.1 (by decide))) (by decide) ?_
                  refine hr_call (a0 := 22) (b := 222) (e := 1) (nl := 1) (As := []) (R := []) 192 rfl (by decide +kernel) rfl rfl (Nat.le_of_ble_eq_true rfl) (Nat.le_of_ble_eq_true rfl) ?_
                  refine hw_mono H ?_
                  rintro r ψ247 y247 ⟨hyx, hψx, z247, hr, H⟩
                  subst hyx
                  subst hψx
                  subst hr
                  refine ⟨hne0, ?_⟩
                  show hw sc (d + 2) 256 165 (jm_st1 (jm_st1 (jm_st1 [(0, (2, 192))] 1 (0, z1)) 2 (0, z134)) 3 (0, z135)) [(0, z247)] (hf_up ψ135 194 ((112 + z134).toNat) 0) y247 Q
                  obtain ⟨hz248, ht248, hf248⟩ := H
                  refine hw_if (a0 := 0) (b := 1) (e := 172) (by decide +kernel) hz248 (fun q => ?_) (fun q => ?_)
                  · have H := ht248 q
                    exact hw_vret (a0 := 0) (e := 0) (by decide +kernel) H
                  · have H := hf248 q
                    refine hw_ald (b := 0) (e := 0) (by decide +kernel) (get_st1 (get_st1 (get_st1 rfl (by decide) (fun q => tg2 q.2)) (by decide) (fun q => absurd q.1 (by decide))) (by decide) (fun q => absurd q.1 (by decide))) (by decide) ?_
                    refine hr_call (a0 := 22) (b := 223) (e := 1) (nl := 2) (As := []) (R := []) 192 rfl (by decide +kernel) rfl rfl (Nat.le_of_ble_eq_true rfl) (Nat.le_of_ble_eq_true rfl) ?_
                    refine hw_mono H ?_
                    rintro r ψ250 y250 ⟨hyx, hr, H⟩
                    subst hyx
                    subst hr
                    refine ⟨hnen, ?_⟩
                    show hw sc (d + 2) 256 172 (jm_st1 (jm_st1 (jm_st1 [(0, (2, 192))] 1 (0, z1)) 2 (0, z134)) 3 (0, z135)) [] ψ250 y250 Q
                    exact hw_vret (a0 := 0) (e := 0) (by decide +kernel) H
              · have H := hf244 q
                refine hw_ald (b := 0) (e := 0) (by decide +kernel) (get_st1 (get_st1 (get_st1 rfl (by decide) (fun q => tg2 q.2)) (by decide) (fun q => absurd q.1 (by decide))) (by decide) (fun q => absurd q.1 (by decide))) (by decide) ?_
                refine hw_ald (b := 0) (e := 0) (by decide +kernel) (get_st1 (get_st1 (get_st1 rfl (by decide) (fun q => tg2 q.2)) (by decide) (fun q => absurd q.1 (by decide))) (by decide) (fun q => absurd q.1 (by decide))) (by decide) ?_
                refine hr_gr (w := 194) (b := 12) (e := 6) 192 rfl (by decide +kernel) ?_
                refine hw_k (c := 3) (b := 0) (e := 1) (by decide +kernel) ?_
                refine hr_al (b := 0) (a0 := 0) (e := 0) (n := 361) (w := (hf_up ψ135 194 ((112 + z134).toNat) 0) 194 3) 194 rfl (by decide +kernel) (by decide) (by decide) (by decide) rfl ?_
                refine hr_call (a0 := 22) (b := 257) (e := 2) (nl := 2) (As := [(0, (hf_up ψ135 194 ((112 + z134).toNat) 0) 194 3)]) (R := []) 192 rfl (by decide +kernel) rfl rfl (Nat.le_of_ble_eq_true rfl) (Nat.le_of_ble_eq_true rfl) ?_
                refine hw_mono H ?_
                rintro r ψ252 y252 ⟨hyx, z252, hr, H⟩
                subst hyx
                subst hr
                refine ⟨hne0, ?_⟩
                show hw sc (d + 2) 256 130 (jm_st1 (jm_st1 (jm_st1 [(0, (2, 192))] 1 (0, z1)) 2 (0, z134)) 3 (0, z135)) [(0, z252)] ψ252 y252 Q
                refine hw_st (L' := (jm_st1 (jm_st1 (jm_st1 (jm_st1 [(0, (2, 192))] 1 (0, z1)) 2 (0, z134)) 3 (0, z135)) 2 (0, z252))) (b := 2) (e := 0) (by decide +kernel) rfl ?_
                refine hw_ald (b := 0) (e := 0) (by decide +kernel) (get_st1 (get_st1 (get_st1 (get_st1 rfl (by decide) (fun q => tg2 q.2)) (by decide) (fun q => absurd q.1 (by decide))) (by decide) (fun q => absurd q.1 (by decide))) (by decide) (fun q => absurd q.1 (by decide))) (by decide) ?_
                refine hw_ald (b := 0) (e := 0) (by decide +kernel) (get_st1 (get_st1 (get_st1 (get_st1 rfl (by decide) (fun q => tg2 q.2)) (by decide) (fun q => absurd q.1 (by decide))) (by decide) (fun q => absurd q.1 (by decide))) (by decide) (fun q => absurd q.1 (by decide))) (by decide) ?_
                refine hr_gr (w := 194) (b := 12) (e := 6) 192 rfl (by decide +kernel) ?_
                refine hw_k (c := 2) (b := 0) (e := 1) (by decide +kernel) ?_
                refine hr_al (b := 0) (a0 := 0) (e := 0) (n := 361) (w := ψ252 194 2) 194 rfl (by decide +kernel) (by decide) (by decide) (by decide) rfl ?_
                refine hr_call (a0 := 22) (b := 257) (e := 2) (nl := 2) (As := [(0, ψ252 194 2)]) (R := []) 192 rfl (by decide +kernel) rfl rfl (Nat.le_of_ble_eq_true rfl) (Nat.le_of_ble_eq_true rfl) ?_
                refine hw_mono H ?_
                rintro r ψ253 y253 ⟨hyx, z253, hr, H⟩
                subst hyx
                subst hr
                refine ⟨hne0, ?_⟩
                show hw sc (d + 2) 256 141 (jm_st1 (jm_st1 (jm_st1 (jm_st1 [(0, (2, 192))] 1 (0, z1)) 2 (0, z134)) 3 (0, z135)) 2 (0, z252)) [(0, z253)] ψ253 y253 Q
                refine hw_st (L' := (jm_st1 (jm_st1 (jm_st1 (jm_st1 (jm_st1 [(0, (2, 192))] 1 (0, z1)) 2 (0, z134)) 3 (0, z135)) 2 (0, z252)) 3 (0, z253))) (b := 3) (e := 0) (by decide +kernel) rfl ?_
                refine hw_ald (b := 0) (e := 0) (by decide +kernel) (get_st1 (get_st1 (get_st1 (get_st1 (get_st1 rfl (by decide) (fun q => tg2 q.2)) (by decide) (fun q => absurd q.1 (by decide))) (by decide) (fun q => absurd q.1 (by decide))) (by decide) (fun q => absurd q.1 (by decide))) (by decide) (fun q => absurd q.1 (by decide))) (by decide) ?_
                refine hw_ld (b := 2) (e := 0) (by decide +kernel) (get_st1 get_st1e (by decide) (fun q => tg0 q.2)) ?_
                refine hr_call (a0 := 22) (b := 219) (e := 2) (nl := 2) (As := [(0, z252)]) (R := []) 192 rfl (by decide +kernel) rfl rfl (Nat.le_of_ble_eq_true rfl) (Nat.le_of_ble_eq_true rfl) ?_
                refine hw_mono H ?_
                rintro r ψ254 y254 ⟨hyx, hψx, z254, hr, H⟩
                subst hyx
                subst hψx
                subst hr
                refine ⟨hne0, ?_⟩
                show hw sc (d + 2) 256 147 (jm_st1 (jm_st1 (jm_st1 (jm_st1 (jm_st1 [(0, (2, 192))] 1 (0, z1)) 2 (0, z134)) 3 (0, z135)) 2 (0, z252)) 3 (0, z253)) [(0, z254)] ψ253 y254 Q
                obtain ⟨hz255, ht255, hf255⟩ := H
                refine hw_if (a0 := 0) (b := 1) (e := 156) (by decide +kernel) hz255 (fun q => ?_) (fun q => ?_)
                · have H := ht255 q
                  refine hw_ld (b := 1) (e := 0) (by decide +kernel) (get_st1 (get_st1 (get_st1 (get_st1 get_st1e (by decide) (fun q => tg0 q.2)) (by decide) (fun q => absurd q.1 (by decide))) (by decide) (fun q => tg0 q.2)) (by decide) (fun q => absurd q.1 (by decide))) ?_
                  refine hw_k (c := 2) (b := 0) (e := 1) (by decide +kernel) ?_
                  obtain ⟨hz256, hy256, ht256, hf256⟩ := H
                  refine hw_if2 (a0 := 0) (b := 1) (e := 172) (by decide +kernel) hz256 hy256 (fun q => ?_) (fun q => ?_)
                  · have H := ht256 q
                    exact hw_vret (a0 := 0) (e := 0) (by decide +kernel) H
                  · have H := hf256 q
                    refine hw_ald (b := 0) (e := 0) (by decide +kernel) (get_st1 (get_st1 (get_st1 (get_st1 (get_st1 rfl (by decide) (fun q => tg2 q.2)) (by decide) (fun q => absurd q.1 (by decide))) (by decide) (fun q => absurd q.1 (by decide))) (by decide) (fun q => absurd q.1 (by decide))) (by decide) (fun q => absurd q.1 (by decide))) (by decide) ?_
                    refine hr_call (a0 := 22) (b := 222) (e := 1) (nl := 1) (As := []) (R := []) 192 rfl (by decide +kernel) rfl rfl (Nat.le_of_ble_eq_true rfl) (Nat.le_of_ble_eq_true rfl) ?_
                    refine hw_mono H ?_
                    rintro r ψ258 y258 ⟨hyx, hψx, z258, hr, H⟩
                    subst hyx
                    subst hψx
                    subst hr
                    refine ⟨hne0, ?_⟩
                    show hw sc (d + 2) 256 165 (jm_st1 (jm_st1 (jm_st1 (jm_st1 (jm_st1 [(0, (2, 192))] 1 (0, z1)) 2 (0, z134)) 3 (0, z135)) 2 (0, z252)) 3 (0, z253)) [(0, z258)] ψ253 y258 Q
                    obtain ⟨hz259, ht259, hf259⟩ := H
                    refine hw_if (a0 := 0) (b := 1) (e := 172) (by decide +kernel) hz259 (fun q => ?_) (fun q => ?_)
                    · have H := ht259 q
                      exact hw_vret (a0 := 0) (e := 0) (by decide +kernel) H
                    · have H := hf259 q
                      refine hw_ald (b := 0) (e := 0) (by decide +kernel) (get_st1 (get_st1 (get_st1 (get_st1 (get_st1 rfl (by decide) (fun q => tg2 q.2)) (by decide) (fun q => absurd q.1 (by decide))) (by decide) (fun q => absurd q.1 (by decide))) (by decide) (fun q => absurd q.1 (by decide))) (by decide) (fun q => absurd q.1 (by decide))) (by decide) ?_
                      refine hr_call (a0 := 22) (b := 223) (e := 1) (nl := 2) (As := []) (R := []) 192 rfl (by decide +kernel) rfl rfl (Nat.le_of_ble_eq_true rfl) (Nat.le_of_ble_eq_true rfl) ?_
                      refine hw_mono H ?_
                      rintro r ψ261 y261 ⟨hyx, hr, H⟩
                      subst hyx
                      subst hr
                      refine ⟨hnen, ?_⟩
                      show hw sc (d + 2) 256 172 (jm_st1 (jm_st1 (jm_st1 (jm_st1 (jm_st1 [(0, (2, 192))] 1 (0, z1)) 2 (0, z134)) 3 (0, z135)) 2 (0, z252)) 3 (0, z253)) [] ψ261 y261 Q
                      exact hw_vret (a0 := 0) (e := 0) (by decide +kernel) H
                · have H := hf255 q
                  refine hw_ald (b := 0) (e := 0) (by decide +kernel) (get_st1 (get_st1 (get_st1 (get_st1 (get_st1 rfl (by decide) (fun q => tg2 q.2)) (by decide) (fun q => absurd q.1 (by decide))) (by decide) (fun q => absurd q.1 (by decide))) (by decide) (fun q => absurd q.1 (by decide))) (by decide) (fun q => absurd q.1 (by decide))) (by decide) ?_
                  refine hw_ld (b := 2) (e := 0) (by decide +kernel) (get_st1 get_st1e (by decide) (fun q => tg0 q.2)) ?_
                  refine hw_ld (b := 3) (e := 0) (by decide +kernel) get_st1e ?_
                  refine hr_call (a0 := 22) (b := 220) (e := 3) (nl := 3) (As := [(0, z252), (0, z253)]) (R := []) 192 rfl (by decide +kernel) rfl rfl (Nat.le_of_ble_eq_true rfl) (Nat.le_of_ble_eq_true rfl) ?_
                  refine hw_mono H ?_
                  rintro r ψ263 y263 ⟨hyx, hr, H⟩
                  subst hyx
                  subst hr
                  refine ⟨hnen, ?_⟩
                  show hw sc (d + 2) 256 156 (jm_st1 (jm_st1 (jm_st1 (jm_st1 (jm_st1 [(0, (2, 192))] 1 (0, z1)) 2 (0, z134)) 3 (0, z135)) 2 (0, z252)) 3 (0, z253)) [] ψ263 y263 Q
                  refine hw_ld (b := 1) (e := 0) (by decide +kernel) (get_st1 (get_st1 (get_st1 (get_st1 get_st1e (by decide) (fun q => tg0 q.2)) (by decide) (fun q => absurd q.1 (by decide))) (by decide) (fun q => tg0 q.2)) (by decide) (fun q => absurd q.1 (by decide))) ?_
                  refine hw_k (c := 2) (b := 0) (e := 1) (by decide +kernel) ?_
                  obtain ⟨hz264, hy264, ht264, hf264⟩ := H
                  refine hw_if2 (a0 := 0) (b := 1) (e := 172) (by decide +kernel) hz264 hy264 (fun q => ?_) (fun q => ?_)
                  · have H := ht264 q
                    exact hw_vret (a0 := 0) (e := 0) (by decide +kernel) H
                  · have H := hf264 q
                    refine hw_ald (b := 0) (e := 0) (by decide +kernel) (get_st1 (get_st1 (get_st1 (get_st1 (get_st1 rfl (by decide) (fun q => tg2 q.2)) (by decide) (fun q => absurd q.1 (by decide))) (by decide) (fun q => absurd q.1 (by decide))) (by decide) (fun q => absurd q.1 (by decide))) (by decide) (fun q => absurd q.1 (by decide))) (by decide) ?_
                    refine hr_call (a0 := 22) (b := 222) (e := 1) (nl := 1) (As := []) (R := []) 192 rfl (by decide +kernel) rfl rfl (Nat.le_of_ble_eq_true rfl) (Nat.le_of_ble_eq_true rfl) ?_
                    refine hw_mono H ?_
                    rintro r ψ266 y266 ⟨hyx, hψx, z266, hr, H⟩
                    subst hyx
                    subst hψx
                    subst hr
                    refine ⟨hne0, ?_⟩
                    show hw sc (d + 2) 256 165 (jm_st1 (jm_st1 (jm_st1 (jm_st1 (jm_st1 [(0, (2, 192))] 1 (0, z1)) 2 (0, z134)) 3 (0, z135)) 2 (0, z252)) 3 (0, z253)) [(0, z266)] ψ263 y266 Q
                    obtain ⟨hz267, ht267, hf267⟩ := H
                    refine hw_if (a0 := 0) (b := 1) (e := 172) (by decide +kernel) hz267 (fun q => ?_) (fun q => ?_)
                    · have H := ht267 q
                      exact hw_vret (a0 := 0) (e := 0) (by decide +kernel) H
                    · have H := hf267 q
                      refine hw_ald (b := 0) (e := 0) (by decide +kernel) (get_st1 (get_st1 (get_st1 (get_st1 (get_st1 rfl (by decide) (fun q => tg2 q.2)) (by decide) (fun q => absurd q.1 (by decide))) (by decide) (fun q => absurd q.1 (by decide))) (by decide) (fun q => absurd q.1 (by decide))) (by decide) (fun q => absurd q.1 (by decide))) (by decide) ?_
                      refine hr_call (a0 := 22) (b := 223) (e := 1) (nl := 2) (As := []) (R := []) 192 rfl (by decide +kernel) rfl rfl (Nat.le_of_ble_eq_true rfl) (Nat.le_of_ble_eq_true rfl) ?_
                      refine hw_mono H ?_
                      rintro r ψ269 y269 ⟨hyx, hr, H⟩
                      subst hyx
                      subst hr
                      refine ⟨hnen, ?_⟩
                      show hw sc (d + 2) 256 172 (jm_st1 (jm_st1 (jm_st1 (jm_st1 (jm_st1 [(0, (2, 192))] 1 (0, z1)) 2 (0, z134)) 3 (0, z135)) 2 (0, z252)) 3 (0, z253)) [] ψ269 y269 Q
                      exact hw_vret (a0 := 0) (e := 0) (by decide +kernel) H
theorem sf_256_192 {sc : List Int} {d : Nat} {φ : hf_F} {x : Nat} {Q : Option jm_V → hf_F → Nat → Prop}  (hI : Inv φ)  (hQ : ∀ ψ : hf_F, Inv ψ → Fr [194, 193029] φ ψ → F_RideLawsModel_drawTick_192 φ = ψ → Q none ψ x) : hw sc (d + 2) 256 0 [(0, (2, 192))] [] φ x Q := by
  apply sf_256_192_v
  have e0 : F_RideLawsModel_drawTick_192 φ = _ := rfl
  refine sf_257_192 (φ := φ) hI (by omega) (by omega) (fun z1 ψ1 hI1 hF1 hp1 hE1 => ⟨rfl, z1, rfl, ?_⟩)
  have hG1 : Fr [194, 193029] φ ψ1 := fr_tr (fr_rf) hF1 (by decide)
  have e1 := e0.trans (bnd_e hE1)
  refine ⟨by unfold hi; omega, fun q2 => ?_, fun q2 => ?_⟩
  · skip
    have e2a := e1.trans (if_pos q2)
    refine ⟨by unfold hi; omega, by unfold hi; omega, fun q3 => ?_, fun q3 => ?_⟩
    · skip
      have e3a := e2a.trans (if_pos q3)
      refine ⟨by unfold hi; omega, by unfold hi; omega, fun q4 => ?_, fun q4 => ?_⟩
      · skip
        have e4a := e3a.trans (if_pos q4)
        exact hQ ψ1 hI1 hG1 e4a
      · skip
        have e4b := e3a.trans (if_neg q4)
        refine sf_222_192 (φ := ψ1) hI1  (fun z6 hp6 hE6 => ⟨rfl, rfl, z6, rfl, ?_⟩)
        have e6 := e4b.trans (bnp_e hE6)
        refine ⟨by unfold hi; omega, fun q7 => ?_, fun q7 => ?_⟩
        · skip
          have e7a := e6.trans (if_pos q7)
          exact hQ ψ1 hI1 hG1 e7a
        · skip
          have e7b := e6.trans (if_neg q7)
          refine sf_223_192 (φ := ψ1) hI1  (fun ψ9 hI9 hF9 hE9 => ⟨rfl, rfl, ?_⟩)
          have hG9 : Fr [194, 193029] φ ψ9 := fr_tr hG1 hF9 (by decide)
          have e9 := e7b.trans (bnv_e hE9)
          exact hQ ψ9 hI9 hG9 e9
    · skip
      have e3b := e2a.trans (if_neg q3)
      have f1 := iv_at (a := 194) (k := 3) (lo := 0) (u := 6) hI1 (by decide +kernel)
      have f2 : ψ1 194 3 = φ 194 3 := (fr_at hF1 194 (by decide) 3)
      have f3 := iv_at (a := 194) (k := 3) (lo := 0) (u := 6) hI (by decide +kernel)
      refine ⟨by unfold hi; omega, fun q11 => ?_, fun q11 => ?_⟩
      · skip
        have e11a := e3b.trans (if_pos q11)
        refine ⟨by unfold hi; omega, by unfold hi; omega, fun q12 => ?_, fun q12 => ?_⟩
        · skip
          have e12a := e11a.trans (if_pos q12)
          exact hQ ψ1 hI1 hG1 e12a
        · skip
          have e12b := e11a.trans (if_neg q12)
          refine sf_222_192 (φ := ψ1) hI1  (fun z14 hp14 hE14 => ⟨rfl, rfl, z14, rfl, ?_⟩)
          have e14 := e12b.trans (bnp_e hE14)
          refine ⟨by unfold hi; omega, fun q15 => ?_, fun q15 => ?_⟩
          · skip
            have e15a := e14.trans (if_pos q15)
            exact hQ ψ1 hI1 hG1 e15a
          · skip
            have e15b := e14.trans (if_neg q15)
            refine sf_223_192 (φ := ψ1) hI1  (fun ψ17 hI17 hF17 hE17 => ⟨rfl, rfl, ?_⟩)
            have hG17 : Fr [194, 193029] φ ψ17 := fr_tr hG1 hF17 (by decide)
            have e17 := e15b.trans (bnv_e hE17)
            exact hQ ψ17 hI17 hG17 e17
      · skip
        have e11b := e3b.trans (if_neg q11)
        have f4 := iv_at (a := 194) (k := 2) (lo := 0) (u := 8) hI1 (by decide +kernel)
        have f5 : ψ1 194 2 = φ 194 2 := (fr_at hF1 194 (by decide) 2)
        have f6 := iv_at (a := 194) (k := 2) (lo := 0) (u := 8) hI (by decide +kernel)
        refine ⟨by unfold hi; omega, fun q19 => ?_, fun q19 => ?_⟩
        · skip
          have e19a := e11b.trans (if_pos q19)
          refine ⟨by unfold hi; omega, by unfold hi; omega, fun q20 => ?_, fun q20 => ?_⟩
          · skip
            have e20a := e19a.trans (if_pos q20)
            exact hQ ψ1 hI1 hG1 e20a
          · skip
            have e20b := e19a.trans (if_neg q20)
            refine sf_222_192 (φ := ψ1) hI1  (fun z22 hp22 hE22 => ⟨rfl, rfl, z22, rfl, ?_⟩)
            have e22 := e20b.trans (bnp_e hE22)
            refine ⟨by unfold hi; omega, fun q23 => ?_, fun q23 => ?_⟩
            · skip
              have e23a := e22.trans (if_pos q23)
              exact hQ ψ1 hI1 hG1 e23a
            · skip
              have e23b := e22.trans (if_neg q23)
              refine sf_223_192 (φ := ψ1) hI1  (fun ψ25 hI25 hF25 hE25 => ⟨rfl, rfl, ?_⟩)
              have hG25 : Fr [194, 193029] φ ψ25 := fr_tr hG1 hF25 (by decide)
              have e25 := e23b.trans (bnv_e hE25)
              exact hQ ψ25 hI25 hG25 e25
        · skip
          have e19b := e11b.trans (if_neg q19)
          refine sf_257_192 (φ := ψ1) hI1 (by omega) (by omega) (fun z27 ψ27 hI27 hF27 hp27 hE27 => ⟨rfl, z27, rfl, ?_⟩)
          have hG27 : Fr [194, 193029] φ ψ27 := fr_tr hG1 hF27 (by decide)
          have e27 := e19b.trans (bnd_e hE27)
          have f7 := iv_at (a := 194) (k := 2) (lo := 0) (u := 8) hI27 (by decide +kernel)
          have f8 : ψ27 194 2 = ψ1 194 2 := (fr_at hF27 194 (by decide) 2)
          refine sf_257_192 (φ := ψ27) hI27 (by omega) (by omega) (fun z28 ψ28 hI28 hF28 hp28 hE28 => ⟨rfl, z28, rfl, ?_⟩)
          have hG28 : Fr [194, 193029] φ ψ28 := fr_tr hG27 hF28 (by decide)
          have e28 := e27.trans (bnd_e hE28)
          refine sf_219_192 (φ := ψ28) hI28 (by omega) (by omega) (fun z29 hp29 hE29 => ⟨rfl, rfl, z29, rfl, ?_⟩)
          have e29 := e28.trans (bnp_e hE29)
          have f9 := iv_ar (a := 194) (s := 118) (t := 124) (lo := 0) (u := 6) (z := 118 + z27) hI28 (by decide +kernel) (by omega) (by omega)
          have f10 : ψ28 194 ((118 + z27).toNat) = ψ27 194 ((118 + z27).toNat) := (fr_at hF28 194 (by decide) ((118 + z27).toNat))
          have f11 := iv_ar (a := 194) (s := 118) (t := 124) (lo := 0) (u := 6) (z := 118 + z27) hI27 (by decide +kernel) (by omega) (by omega)
          have f12 : ψ27 194 ((118 + z27).toNat) = ψ1 194 ((118 + z27).toNat) := (fr_at hF27 194 (by decide) ((118 + z27).toNat))
          have f13 := iv_ar (a := 194) (s := 118) (t := 124) (lo := 0) (u := 6) (z := 118 + z27) hI1 (by decide +kernel) (by omega) (by omega)
          have f14 : ψ1 194 ((118 + z27).toNat) = φ 194 ((118 + z27).toNat) := (fr_at hF1 194 (by decide) ((118 + z27).toNat))
          have f15 := iv_ar (a := 194) (s := 118) (t := 124) (lo := 0) (u := 6) (z := 118 + z27) hI (by decide +kernel) (by omega) (by omega)
          refine ⟨by unfold hi; omega, fun q30 => ?_, fun q30 => ?_⟩
          · skip
            have e30a := e29.trans (if_pos q30)
            refine ⟨by unfold hi; omega, by unfold hi; omega, fun q31 => ?_, fun q31 => ?_⟩
            · skip
              have e31a := e30a.trans (if_pos q31)
              exact hQ ψ28 hI28 hG28 e31a
            · skip
              have e31b := e30a.trans (if_neg q31)
              refine sf_222_192 (φ := ψ28) hI28  (fun z33 hp33 hE33 => ⟨rfl, rfl, z33, rfl, ?_⟩)
              have e33 := e31b.trans (bnp_e hE33)
              refine ⟨by unfold hi; omega, fun q34 => ?_, fun q34 => ?_⟩
              · skip
                have e34a := e33.trans (if_pos q34)
                exact hQ ψ28 hI28 hG28 e34a
              · skip
                have e34b := e33.trans (if_neg q34)
                refine sf_223_192 (φ := ψ28) hI28  (fun ψ36 hI36 hF36 hE36 => ⟨rfl, rfl, ?_⟩)
                have hG36 : Fr [194, 193029] φ ψ36 := fr_tr hG28 hF36 (by decide)
                have e36 := e34b.trans (bnv_e hE36)
                exact hQ ψ36 hI36 hG36 e36
          · skip
            have e30b := e29.trans (if_neg q30)
            refine sf_220_192 (φ := ψ28) hI28 (by omega) (by omega) (by omega) (by omega) (by omega) (fun ψ38 hI38 hF38 hE38 => ⟨rfl, rfl, ?_⟩)
            have hG38 : Fr [194, 193029] φ ψ38 := fr_tr hG28 hF38 (by decide)
            have e38 := e30b.trans (bnv_e hE38)
            refine ⟨by unfold hi; omega, by unfold hi; omega, fun q39 => ?_, fun q39 => ?_⟩
            · skip
              have e39a := e38.trans (if_pos q39)
              exact hQ ψ38 hI38 hG38 e39a
            · skip
              have e39b := e38.trans (if_neg q39)
              refine sf_222_192 (φ := ψ38) hI38  (fun z41 hp41 hE41 => ⟨rfl, rfl, z41, rfl, ?_⟩)
              have e41 := e39b.trans (bnp_e hE41)
              refine ⟨by unfold hi; omega, fun q42 => ?_, fun q42 => ?_⟩
              · skip
                have e42a := e41.trans (if_pos q42)
                exact hQ ψ38 hI38 hG38 e42a
              · skip
                have e42b := e41.trans (if_neg q42)
                refine sf_223_192 (φ := ψ38) hI38  (fun ψ44 hI44 hF44 hE44 => ⟨rfl, rfl, ?_⟩)
                have hG44 : Fr [194, 193029] φ ψ44 := fr_tr hG38 hF44 (by decide)
                have e44 := e42b.trans (bnv_e hE44)
                exact hQ ψ44 hI44 hG44 e44
  · skip
    have e2b := e1.trans (if_neg q2)
    have f16 := iv_at (a := 194) (k := 3) (lo := 0) (u := 6) hI1 (by decide +kernel)
    have f17 : ψ1 194 3 = φ 194 3 := (fr_at hF1 194 (by decide) 3)
    have f18 := iv_at (a := 194) (k := 3) (lo := 0) (u := 6) hI (by decide +kernel)
    refine ⟨by unfold hi; omega, fun q46 => ?_, fun q46 => ?_⟩
    · skip
      have e46a := e2b.trans (if_pos q46)
      refine ⟨by unfold hi; omega, by unfold hi; omega, fun q47 => ?_, fun q47 => ?_⟩
      · skip
        have e47a := e46a.trans (if_pos q47)
        refine ⟨by unfold hi; omega, by unfold hi; omega, fun q48 => ?_, fun q48 => ?_⟩
        · skip
          have e48a := e47a.trans (if_pos q48)
          exact hQ ψ1 hI1 hG1 e48a
        · skip
          have e48b := e47a.trans (if_neg q48)
          refine sf_222_192 (φ := ψ1) hI1  (fun z50 hp50 hE50 => ⟨rfl, rfl, z50, rfl, ?_⟩)
          have e50 := e48b.trans (bnp_e hE50)
          refine ⟨by unfold hi; omega, fun q51 => ?_, fun q51 => ?_⟩
          · skip
            have e51a := e50.trans (if_pos q51)
            exact hQ ψ1 hI1 hG1 e51a
          · skip
            have e51b := e50.trans (if_neg q51)
            refine sf_223_192 (φ := ψ1) hI1  (fun ψ53 hI53 hF53 hE53 => ⟨rfl, rfl, ?_⟩)
            have hG53 : Fr [194, 193029] φ ψ53 := fr_tr hG1 hF53 (by decide)
            have e53 := e51b.trans (bnv_e hE53)
            exact hQ ψ53 hI53 hG53 e53
      · skip
        have e47b := e46a.trans (if_neg q47)
        refine ⟨by unfold hi; omega, fun q55 => ?_, fun q55 => ?_⟩
        · skip
          have e55a := e47b.trans (if_pos q55)
          refine ⟨by unfold hi; omega, by unfold hi; omega, fun q56 => ?_, fun q56 => ?_⟩
          · skip
            have e56a := e55a.trans (if_pos q56)
            exact hQ ψ1 hI1 hG1 e56a
          · skip
            have e56b := e55a.trans (if_neg q56)
            refine sf_222_192 (φ := ψ1) hI1  (fun z58 hp58 hE58 => ⟨rfl, rfl, z58, rfl, ?_⟩)
            have e58 := e56b.trans (bnp_e hE58)
            refine ⟨by unfold hi; omega, fun q59 => ?_, fun q59 => ?_⟩
            · skip
              have e59a := e58.trans (if_pos q59)
              exact hQ ψ1 hI1 hG1 e59a
            · skip
              have e59b := e58.trans (if_neg q59)
              refine sf_223_192 (φ := ψ1) hI1  (fun ψ61 hI61 hF61 hE61 => ⟨rfl, rfl, ?_⟩)
              have hG61 : Fr [194, 193029] φ ψ61 := fr_tr hG1 hF61 (by decide)
              have e61 := e59b.trans (bnv_e hE61)
              exact hQ ψ61 hI61 hG61 e61
        · skip
          have e55b := e47b.trans (if_neg q55)
          have f19 := iv_at (a := 194) (k := 2) (lo := 0) (u := 8) hI1 (by decide +kernel)
          have f20 : ψ1 194 2 = φ 194 2 := (fr_at hF1 194 (by decide) 2)
          have f21 := iv_at (a := 194) (k := 2) (lo := 0) (u := 8) hI (by decide +kernel)
          refine ⟨by unfold hi; omega, fun q63 => ?_, fun q63 => ?_⟩
          · skip
            have e63a := e55b.trans (if_pos q63)
            refine ⟨by unfold hi; omega, by unfold hi; omega, fun q64 => ?_, fun q64 => ?_⟩
            · skip
              have e64a := e63a.trans (if_pos q64)
              exact hQ ψ1 hI1 hG1 e64a
            · skip
              have e64b := e63a.trans (if_neg q64)
              refine sf_222_192 (φ := ψ1) hI1  (fun z66 hp66 hE66 => ⟨rfl, rfl, z66, rfl, ?_⟩)
              have e66 := e64b.trans (bnp_e hE66)
              refine ⟨by unfold hi; omega, fun q67 => ?_, fun q67 => ?_⟩
              · skip
                have e67a := e66.trans (if_pos q67)
                exact hQ ψ1 hI1 hG1 e67a
              · skip
                have e67b := e66.trans (if_neg q67)
                refine sf_223_192 (φ := ψ1) hI1  (fun ψ69 hI69 hF69 hE69 => ⟨rfl, rfl, ?_⟩)
                have hG69 : Fr [194, 193029] φ ψ69 := fr_tr hG1 hF69 (by decide)
                have e69 := e67b.trans (bnv_e hE69)
                exact hQ ψ69 hI69 hG69 e69
          · skip
            have e63b := e55b.trans (if_neg q63)
            refine sf_257_192 (φ := ψ1) hI1 (by omega) (by omega) (fun z71 ψ71 hI71 hF71 hp71 hE71 => ⟨rfl, z71, rfl, ?_⟩)
            have hG71 : Fr [194, 193029] φ ψ71 := fr_tr hG1 hF71 (by decide)
            have e71 := e63b.trans (bnd_e hE71)
            have f22 := iv_at (a := 194) (k := 2) (lo := 0) (u := 8) hI71 (by decide +kernel)
            have f23 : ψ71 194 2 = ψ1 194 2 := (fr_at hF71 194 (by decide) 2)
            refine sf_257_192 (φ := ψ71) hI71 (by omega) (by omega) (fun z72 ψ72 hI72 hF72 hp72 hE72 => ⟨rfl, z72, rfl, ?_⟩)
            have hG72 : Fr [194, 193029] φ ψ72 := fr_tr hG71 hF72 (by decide)
            have e72 := e71.trans (bnd_e hE72)
            refine sf_219_192 (φ := ψ72) hI72 (by omega) (by omega) (fun z73 hp73 hE73 => ⟨rfl, rfl, z73, rfl, ?_⟩)
            have e73 := e72.trans (bnp_e hE73)
            have f24 := iv_ar (a := 194) (s := 118) (t := 124) (lo := 0) (u := 6) (z := 118 + z71) hI72 (by decide +kernel) (by omega) (by omega)
            have f25 : ψ72 194 ((118 + z71).toNat) = ψ71 194 ((118 + z71).toNat) := (fr_at hF72 194 (by decide) ((118 + z71).toNat))
            have f26 := iv_ar (a := 194) (s := 118) (t := 124) (lo := 0) (u := 6) (z := 118 + z71) hI71 (by decide +kernel) (by omega) (by omega)
            have f27 : ψ71 194 ((118 + z71).toNat) = ψ1 194 ((118 + z71).toNat) := (fr_at hF71 194 (by decide) ((118 + z71).toNat))
            have f28 := iv_ar (a := 194) (s := 118) (t := 124) (lo := 0) (u := 6) (z := 118 + z71) hI1 (by decide +kernel) (by omega) (by omega)
            have f29 : ψ1 194 ((118 + z71).toNat) = φ 194 ((118 + z71).toNat) := (fr_at hF1 194 (by decide) ((118 + z71).toNat))
            have f30 := iv_ar (a := 194) (s := 118) (t := 124) (lo := 0) (u := 6) (z := 118 + z71) hI (by decide +kernel) (by omega) (by omega)
            refine ⟨by unfold hi; omega, fun q74 => ?_, fun q74 => ?_⟩
            · skip
              have e74a := e73.trans (if_pos q74)
              refine ⟨by unfold hi; omega, by unfold hi; omega, fun q75 => ?_, fun q75 => ?_⟩
              · skip
                have e75a := e74a.trans (if_pos q75)
                exact hQ ψ72 hI72 hG72 e75a
              · skip
                have e75b := e74a.trans (if_neg q75)
                refine sf_222_192 (φ := ψ72) hI72  (fun z77 hp77 hE77 => ⟨rfl, rfl, z77, rfl, ?_⟩)
                have e77 := e75b.trans (bnp_e hE77)
                refine ⟨by unfold hi; omega, fun q78 => ?_, fun q78 => ?_⟩
                · skip
                  have e78a := e77.trans (if_pos q78)
                  exact hQ ψ72 hI72 hG72 e78a
                · skip
                  have e78b := e77.trans (if_neg q78)
                  refine sf_223_192 (φ := ψ72) hI72  (fun ψ80 hI80 hF80 hE80 => ⟨rfl, rfl, ?_⟩)
                  have hG80 : Fr [194, 193029] φ ψ80 := fr_tr hG72 hF80 (by decide)
                  have e80 := e78b.trans (bnv_e hE80)
                  exact hQ ψ80 hI80 hG80 e80
            · skip
              have e74b := e73.trans (if_neg q74)
              refine sf_220_192 (φ := ψ72) hI72 (by omega) (by omega) (by omega) (by omega) (by omega) (fun ψ82 hI82 hF82 hE82 => ⟨rfl, rfl, ?_⟩)
              have hG82 : Fr [194, 193029] φ ψ82 := fr_tr hG72 hF82 (by decide)
              have e82 := e74b.trans (bnv_e hE82)
              refine ⟨by unfold hi; omega, by unfold hi; omega, fun q83 => ?_, fun q83 => ?_⟩
              · skip
                have e83a := e82.trans (if_pos q83)
                exact hQ ψ82 hI82 hG82 e83a
              · skip
                have e83b := e82.trans (if_neg q83)
                refine sf_222_192 (φ := ψ82) hI82  (fun z85 hp85 hE85 => ⟨rfl, rfl, z85, rfl, ?_⟩)
                have e85 := e83b.trans (bnp_e hE85)
                refine ⟨by unfold hi; omega, fun q86 => ?_, fun q86 => ?_⟩
                · skip
                  have e86a := e85.trans (if_pos q86)
                  exact hQ ψ82 hI82 hG82 e86a
                · skip
                  have e86b := e85.trans (if_neg q86)
                  refine sf_223_192 (φ := ψ82) hI82  (fun ψ88 hI88 hF88 hE88 => ⟨rfl, rfl, ?_⟩)
                  have hG88 : Fr [194, 193029] φ ψ88 := fr_tr hG82 hF88 (by decide)
                  have e88 := e86b.trans (bnv_e hE88)
                  exact hQ ψ88 hI88 hG88 e88
    · skip
      have e46b := e2b.trans (if_neg q46)
      have f31 := iv_at (a := 194) (k := 1) (lo := 0) (u := 8) hI1 (by decide +kernel)
      have f32 : ψ1 194 1 = φ 194 1 := (fr_at hF1 194 (by decide) 1)
      have f33 := iv_at (a := 194) (k := 1) (lo := 0) (u := 8) hI (by decide +kernel)
      refine ⟨by unfold hi; omega, fun q90 => ?_, fun q90 => ?_⟩
      · skip
        have e90a := e46b.trans (if_pos q90)
        refine ⟨by unfold hi; omega, by unfold hi; omega, fun q91 => ?_, fun q91 => ?_⟩
        · skip
          have e91a := e90a.trans (if_pos q91)
          refine ⟨by unfold hi; omega, by unfold hi; omega, fun q92 => ?_, fun q92 => ?_⟩
          · skip
            have e92a := e91a.trans (if_pos q92)
            exact hQ ψ1 hI1 hG1 e92a
          · skip
            have e92b := e91a.trans (if_neg q92)
            refine sf_222_192 (φ := ψ1) hI1  (fun z94 hp94 hE94 => ⟨rfl, rfl, z94, rfl, ?_⟩)
            have e94 := e92b.trans (bnp_e hE94)
            refine ⟨by unfold hi; omega, fun q95 => ?_, fun q95 => ?_⟩
            · skip
              have e95a := e94.trans (if_pos q95)
              exact hQ ψ1 hI1 hG1 e95a
            · skip
              have e95b := e94.trans (if_neg q95)
              refine sf_223_192 (φ := ψ1) hI1  (fun ψ97 hI97 hF97 hE97 => ⟨rfl, rfl, ?_⟩)
              have hG97 : Fr [194, 193029] φ ψ97 := fr_tr hG1 hF97 (by decide)
              have e97 := e95b.trans (bnv_e hE97)
              exact hQ ψ97 hI97 hG97 e97
        · skip
          have e91b := e90a.trans (if_neg q91)
          refine ⟨by unfold hi; omega, fun q99 => ?_, fun q99 => ?_⟩
          · skip
            have e99a := e91b.trans (if_pos q99)
            refine ⟨by unfold hi; omega, by unfold hi; omega, fun q100 => ?_, fun q100 => ?_⟩
            · skip
              have e100a := e99a.trans (if_pos q100)
              exact hQ ψ1 hI1 hG1 e100a
            · skip
              have e100b := e99a.trans (if_neg q100)
              refine sf_222_192 (φ := ψ1) hI1  (fun z102 hp102 hE102 => ⟨rfl, rfl, z102, rfl, ?_⟩)
              have e102 := e100b.trans (bnp_e hE102)
              refine ⟨by unfold hi; omega, fun q103 => ?_, fun q103 => ?_⟩
              · skip
                have e103a := e102.trans (if_pos q103)
                exact hQ ψ1 hI1 hG1 e103a
              · skip
                have e103b := e102.trans (if_neg q103)
                refine sf_223_192 (φ := ψ1) hI1  (fun ψ105 hI105 hF105 hE105 => ⟨rfl, rfl, ?_⟩)
                have hG105 : Fr [194, 193029] φ ψ105 := fr_tr hG1 hF105 (by decide)
                have e105 := e103b.trans (bnv_e hE105)
                exact hQ ψ105 hI105 hG105 e105
          · skip
            have e99b := e91b.trans (if_neg q99)
            have f34 := iv_at (a := 194) (k := 2) (lo := 0) (u := 8) hI1 (by decide +kernel)
            have f35 : ψ1 194 2 = φ 194 2 := (fr_at hF1 194 (by decide) 2)
            have f36 := iv_at (a := 194) (k := 2) (lo := 0) (u := 8) hI (by decide +kernel)
            refine ⟨by unfold hi; omega, fun q107 => ?_, fun q107 => ?_⟩
            · skip
              have e107a := e99b.trans (if_pos q107)
              refine ⟨by unfold hi; omega, by unfold hi; omega, fun q108 => ?_, fun q108 => ?_⟩
              · skip
                have e108a := e107a.trans (if_pos q108)
                exact hQ ψ1 hI1 hG1 e108a
              · skip
                have e108b := e107a.trans (if_neg q108)
                refine sf_222_192 (φ := ψ1) hI1  (fun z110 hp110 hE110 => ⟨rfl, rfl, z110, rfl, ?_⟩)
                have e110 := e108b.trans (bnp_e hE110)
                refine ⟨by unfold hi; omega, fun q111 => ?_, fun q111 => ?_⟩
                · skip
                  have e111a := e110.trans (if_pos q111)
                  exact hQ ψ1 hI1 hG1 e111a
                · skip
                  have e111b := e110.trans (if_neg q111)
                  refine sf_223_192 (φ := ψ1) hI1  (fun ψ113 hI113 hF113 hE113 => ⟨rfl, rfl, ?_⟩)
                  have hG113 : Fr [194, 193029] φ ψ113 := fr_tr hG1 hF113 (by decide)
                  have e113 := e111b.trans (bnv_e hE113)
                  exact hQ ψ113 hI113 hG113 e113
            · skip
              have e107b := e99b.trans (if_neg q107)
              refine sf_257_192 (φ := ψ1) hI1 (by omega) (by omega) (fun z115 ψ115 hI115 hF115 hp115 hE115 => ⟨rfl, z115, rfl, ?_⟩)
              have hG115 : Fr [194, 193029] φ ψ115 := fr_tr hG1 hF115 (by decide)
              have e115 := e107b.trans (bnd_e hE115)
              have f37 := iv_at (a := 194) (k := 2) (lo := 0) (u := 8) hI115 (by decide +kernel)
              have f38 : ψ115 194 2 = ψ1 194 2 := (fr_at hF115 194 (by decide) 2)
              refine sf_257_192 (φ := ψ115) hI115 (by omega) (by omega) (fun z116 ψ116 hI116 hF116 hp116 hE116 => ⟨rfl, z116, rfl, ?_⟩)
              have hG116 : Fr [194, 193029] φ ψ116 := fr_tr hG115 hF116 (by decide)
              have e116 := e115.trans (bnd_e hE116)
              refine sf_219_192 (φ := ψ116) hI116 (by omega) (by omega) (fun z117 hp117 hE117 => ⟨rfl, rfl, z117, rfl, ?_⟩)
              have e117 := e116.trans (bnp_e hE117)
              have f39 := iv_ar (a := 194) (s := 118) (t := 124) (lo := 0) (u := 6) (z := 118 + z115) hI116 (by decide +kernel) (by omega) (by omega)
              have f40 : ψ116 194 ((118 + z115).toNat) = ψ115 194 ((118 + z115).toNat) := (fr_at hF116 194 (by decide) ((118 + z115).toNat))
              have f41 := iv_ar (a := 194) (s := 118) (t := 124) (lo := 0) (u := 6) (z := 118 + z115) hI115 (by decide +kernel) (by omega) (by omega)
              have f42 : ψ115 194 ((118 + z115).toNat) = ψ1 194 ((118 + z115).toNat) := (fr_at hF115 194 (by decide) ((118 + z115).toNat))
              have f43 := iv_ar (a := 194) (s := 118) (t := 124) (lo := 0) (u := 6) (z := 118 + z115) hI1 (by decide +kernel) (by omega) (by omega)
              have f44 : ψ1 194 ((118 + z115).toNat) = φ 194 ((118 + z115).toNat) := (fr_at hF1 194 (by decide) ((118 + z115).toNat))
              have f45 := iv_ar (a := 194) (s := 118) (t := 124) (lo := 0) (u := 6) (z := 118 + z115) hI (by decide +kernel) (by omega) (by omega)
              refine ⟨by unfold hi; omega, fun q118 => ?_, fun q118 => ?_⟩
              · skip
                have e118a := e117.trans (if_pos q118)
                refine ⟨by unfold hi; omega, by unfold hi; omega, fun q119 => ?_, fun q119 => ?_⟩
                · skip
                  have e119a := e118a.trans (if_pos q119)
                  exact hQ ψ116 hI116 hG116 e119a
                · skip
                  have e119b := e118a.trans (if_neg q119)
                  refine sf_222_192 (φ := ψ116) hI116  (fun z121 hp121 hE121 => ⟨rfl, rfl, z121, rfl, ?_⟩)
                  have e121 := e119b.trans (bnp_e hE121)
                  refine ⟨by unfold hi; omega, fun q122 => ?_, fun q122 => ?_⟩
                  · skip
                    have e122a := e121.trans (if_pos q122)
                    exact hQ ψ116 hI116 hG116 e122a
                  · skip
                    have e122b := e121.trans (if_neg q122)
                    refine sf_223_192 (φ := ψ116) hI116  (fun ψ124 hI124 hF124 hE124 => ⟨rfl, rfl, ?_⟩)
                    have hG124 : Fr [194, 193029] φ ψ124 := fr_tr hG116 hF124 (by decide)
                    have e124 := e122b.trans (bnv_e hE124)
                    exact hQ ψ124 hI124 hG124 e124
              · skip
                have e118b := e117.trans (if_neg q118)
                refine sf_220_192 (φ := ψ116) hI116 (by omega) (by omega) (by omega) (by omega) (by omega) (fun ψ126 hI126 hF126 hE126 => ⟨rfl, rfl, ?_⟩)
                have hG126 : Fr [194, 193029] φ ψ126 := fr_tr hG116 hF126 (by decide)
                have e126 := e118b.trans (bnv_e hE126)
                refine ⟨by unfold hi; omega, by unfold hi; omega, fun q127 => ?_, fun q127 => ?_⟩
                · skip
                  have e127a := e126.trans (if_pos q127)
                  exact hQ ψ126 hI126 hG126 e127a
                · skip
                  have e127b := e126.trans (if_neg q127)
                  refine sf_222_192 (φ := ψ126) hI126  (fun z129 hp129 hE129 => ⟨rfl, rfl, z129, rfl, ?_⟩)
                  have e129 := e127b.trans (bnp_e hE129)
                  refine ⟨by unfold hi; omega, fun q130 => ?_, fun q130 => ?_⟩
                  · skip
                    have e130a := e129.trans (if_pos q130)
                    exact hQ ψ126 hI126 hG126 e130a
                  · skip
                    have e130b := e129.trans (if_neg q130)
                    refine sf_223_192 (φ := ψ126) hI126  (fun ψ132 hI132 hF132 hE132 => ⟨rfl, rfl, ?_⟩)
                    have hG132 : Fr [194, 193029] φ ψ132 := fr_tr hG126 hF132 (by decide)
                    have e132 := e130b.trans (bnv_e hE132)
                    exact hQ ψ132 hI132 hG132 e132
      · skip
        have e90b := e46b.trans (if_neg q90)
        refine sf_257_192 (φ := ψ1) hI1 (by omega) (by omega) (fun z134 ψ134 hI134 hF134 hp134 hE134 => ⟨rfl, z134, rfl, ?_⟩)
        have hG134 : Fr [194, 193029] φ ψ134 := fr_tr hG1 hF134 (by decide)
        have e134 := e90b.trans (bnd_e hE134)
        have f46 := iv_at (a := 194) (k := 1) (lo := 0) (u := 8) hI134 (by decide +kernel)
        have f47 : ψ134 194 1 = ψ1 194 1 := (fr_at hF134 194 (by decide) 1)
        refine sf_257_192 (φ := ψ134) hI134 (by omega) (by omega) (fun z135 ψ135 hI135 hF135 hp135 hE135 => ⟨rfl, z135, rfl, ?_⟩)
        have hG135 : Fr [194, 193029] φ ψ135 := fr_tr hG134 hF135 (by decide)
        have e135 := e134.trans (bnd_e hE135)
        refine ⟨by omega, by omega, ?_⟩
        have f48 := iv_ar (a := 194) (s := 112) (t := 118) (lo := 0) (u := 8) (z := 112 + z134) hI135 (by decide +kernel) (by omega) (by omega)
        have f49 : ψ135 194 ((112 + z134).toNat) = ψ134 194 ((112 + z134).toNat) := (fr_at hF135 194 (by decide) ((112 + z134).toNat))
        have f50 := iv_ar (a := 194) (s := 112) (t := 118) (lo := 0) (u := 8) (z := 112 + z134) hI134 (by decide +kernel) (by omega) (by omega)
        have f51 : ψ134 194 ((112 + z134).toNat) = ψ1 194 ((112 + z134).toNat) := (fr_at hF134 194 (by decide) ((112 + z134).toNat))
        have f52 := iv_ar (a := 194) (s := 112) (t := 118) (lo := 0) (u := 8) (z := 112 + z134) hI1 (by decide +kernel) (by omega) (by omega)
        have f53 : ψ1 194 ((112 + z134).toNat) = φ 194 ((112 + z134).toNat) := (fr_at hF1 194 (by decide) ((112 + z134).toNat))
        have f54 := iv_ar (a := 194) (s := 112) (t := 118) (lo := 0) (u := 8) (z := 112 + z134) hI (by decide +kernel) (by omega) (by omega)
        refine ⟨by unfold hi; omega, fun q137 => ?_, fun q137 => ?_⟩
        · skip
          have e137a := e135.trans (if_pos q137)
          refine sf_215_192 (φ := ψ135) hI135 (by omega) (by omega) (by omega) (by omega) (fun z138 hp138 hE138 => ⟨rfl, rfl, z138, rfl, ?_⟩)
          have e138 := e137a.trans (bnp_e hE138)
          refine ⟨by unfold hi; omega, fun q139 => ?_, fun q139 => ?_⟩
          · skip
            have e139a := e138.trans (if_pos q139)
            refine ⟨by unfold hi; omega, by unfold hi; omega, fun q140 => ?_, fun q140 => ?_⟩
            · skip
              have e140a := e139a.trans (if_pos q140)
              refine ⟨by unfold hi; omega, by unfold hi; omega, fun q141 => ?_, fun q141 => ?_⟩
              · skip
                have e141a := e140a.trans (if_pos q141)
                exact hQ ψ135 hI135 hG135 e141a
              · skip
                have e141b := e140a.trans (if_neg q141)
                refine sf_222_192 (φ := ψ135) hI135  (fun z143 hp143 hE143 => ⟨rfl, rfl, z143, rfl, ?_⟩)
                have e143 := e141b.trans (bnp_e hE143)
                refine ⟨by unfold hi; omega, fun q144 => ?_, fun q144 => ?_⟩
                · skip
                  have e144a := e143.trans (if_pos q144)
                  exact hQ ψ135 hI135 hG135 e144a
                · skip
                  have e144b := e143.trans (if_neg q144)
                  refine sf_223_192 (φ := ψ135) hI135  (fun ψ146 hI146 hF146 hE146 => ⟨rfl, rfl, ?_⟩)
                  have hG146 : Fr [194, 193029] φ ψ146 := fr_tr hG135 hF146 (by decide)
                  have e146 := e144b.trans (bnv_e hE146)
                  exact hQ ψ146 hI146 hG146 e146
            · skip
              have e140b := e139a.trans (if_neg q140)
              have f55 := iv_at (a := 194) (k := 3) (lo := 0) (u := 6) hI135 (by decide +kernel)
              have f56 : ψ135 194 3 = ψ134 194 3 := (fr_at hF135 194 (by decide) 3)
              have f57 := iv_at (a := 194) (k := 3) (lo := 0) (u := 6) hI134 (by decide +kernel)
              have f58 : ψ134 194 3 = ψ1 194 3 := (fr_at hF134 194 (by decide) 3)
              refine ⟨by unfold hi; omega, fun q148 => ?_, fun q148 => ?_⟩
              · skip
                have e148a := e140b.trans (if_pos q148)
                refine ⟨by unfold hi; omega, by unfold hi; omega, fun q149 => ?_, fun q149 => ?_⟩
                · skip
                  have e149a := e148a.trans (if_pos q149)
                  exact hQ ψ135 hI135 hG135 e149a
                · skip
                  have e149b := e148a.trans (if_neg q149)
                  refine sf_222_192 (φ := ψ135) hI135  (fun z151 hp151 hE151 => ⟨rfl, rfl, z151, rfl, ?_⟩)
                  have e151 := e149b.trans (bnp_e hE151)
                  refine ⟨by unfold hi; omega, fun q152 => ?_, fun q152 => ?_⟩
                  · skip
                    have e152a := e151.trans (if_pos q152)
                    exact hQ ψ135 hI135 hG135 e152a
                  · skip
                    have e152b := e151.trans (if_neg q152)
                    refine sf_223_192 (φ := ψ135) hI135  (fun ψ154 hI154 hF154 hE154 => ⟨rfl, rfl, ?_⟩)
                    have hG154 : Fr [194, 193029] φ ψ154 := fr_tr hG135 hF154 (by decide)
                    have e154 := e152b.trans (bnv_e hE154)
                    exact hQ ψ154 hI154 hG154 e154
              · skip
                have e148b := e140b.trans (if_neg q148)
                have f59 := iv_at (a := 194) (k := 2) (lo := 0) (u := 8) hI135 (by decide +kernel)
                have f60 : ψ135 194 2 = ψ134 194 2 := (fr_at hF135 194 (by decide) 2)
                have f61 := iv_at (a := 194) (k := 2) (lo := 0) (u := 8) hI134 (by decide +kernel)
                have f62 : ψ134 194 2 = ψ1 194 2 := (fr_at hF134 194 (by decide) 2)
                have f63 := iv_at (a := 194) (k := 2) (lo := 0) (u := 8) hI1 (by decide +kernel)
                have f64 : ψ1 194 2 = φ 194 2 := (fr_at hF1 194 (by decide) 2)
                have f65 := iv_at (a := 194) (k := 2) (lo := 0) (u := 8) hI (by decide +kernel)
                refine ⟨by unfold hi; omega, fun q156 => ?_, fun q156 => ?_⟩
                · skip
                  have e156a := e148b.trans (if_pos q156)
                  refine ⟨by unfold hi; omega, by unfold hi; omega, fun q157 => ?_, fun q157 => ?_⟩
                  · skip
                    have e157a := e156a.trans (if_pos q157)
                    exact hQ ψ135 hI135 hG135 e157a
                  · skip
                    have e157b := e156a.trans (if_neg q157)
                    refine sf_222_192 (φ := ψ135) hI135  (fun z159 hp159 hE159 => ⟨rfl, rfl, z159, rfl, ?_⟩)
                    have e159 := e157b.trans (bnp_e hE159)
                    refine ⟨by unfold hi; omega, fun q160 => ?_, fun q160 => ?_⟩
                    · skip
                      have e160a := e159.trans (if_pos q160)
                      exact hQ ψ135 hI135 hG135 e160a
                    · skip
                      have e160b := e159.trans (if_neg q160)
                      refine sf_223_192 (φ := ψ135) hI135  (fun ψ162 hI162 hF162 hE162 => ⟨rfl, rfl, ?_⟩)
                      have hG162 : Fr [194, 193029] φ ψ162 := fr_tr hG135 hF162 (by decide)
                      have e162 := e160b.trans (bnv_e hE162)
                      exact hQ ψ162 hI162 hG162 e162
                · skip
                  have e156b := e148b.trans (if_neg q156)
                  refine sf_257_192 (φ := ψ135) hI135 (by omega) (by omega) (fun z164 ψ164 hI164 hF164 hp164 hE164 => ⟨rfl, z164, rfl, ?_⟩)
                  have hG164 : Fr [194, 193029] φ ψ164 := fr_tr hG135 hF164 (by decide)
                  have e164 := e156b.trans (bnd_e hE164)
                  have f66 := iv_at (a := 194) (k := 2) (lo := 0) (u := 8) hI164 (by decide +kernel)
                  have f67 : ψ164 194 2 = ψ135 194 2 := (fr_at hF164 194 (by decide) 2)
                  refine sf_257_192 (φ := ψ164) hI164 (by omega) (by omega) (fun z165 ψ165 hI165 hF165 hp165 hE165 => ⟨rfl, z165, rfl, ?_⟩)
                  have hG165 : Fr [194, 193029] φ ψ165 := fr_tr hG164 hF165 (by decide)
                  have e165 := e164.trans (bnd_e hE165)
                  refine sf_219_192 (φ := ψ165) hI165 (by omega) (by omega) (fun z166 hp166 hE166 => ⟨rfl, rfl, z166, rfl, ?_⟩)
                  have e166 := e165.trans (bnp_e hE166)
                  have f68 := iv_ar (a := 194) (s := 118) (t := 124) (lo := 0) (u := 6) (z := 118 + z164) hI165 (by decide +kernel) (by omega) (by omega)
                  have f69 : ψ165 194 ((118 + z164).toNat) = ψ164 194 ((118 + z164).toNat) := (fr_at hF165 194 (by decide) ((118 + z164).toNat))
                  have f70 := iv_ar (a := 194) (s := 118) (t := 124) (lo := 0) (u := 6) (z := 118 + z164) hI164 (by decide +kernel) (by omega) (by omega)
                  have f71 : ψ164 194 ((118 + z164).toNat) = ψ135 194 ((118 + z164).toNat) := (fr_at hF164 194 (by decide) ((118 + z164).toNat))
                  have f72 := iv_ar (a := 194) (s := 118) (t := 124) (lo := 0) (u := 6) (z := 118 + z164) hI135 (by decide +kernel) (by omega) (by omega)
                  have f73 : ψ135 194 ((118 + z164).toNat) = ψ134 194 ((118 + z164).toNat) := (fr_at hF135 194 (by decide) ((118 + z164).toNat))
                  have f74 := iv_ar (a := 194) (s := 118) (t := 124) (lo := 0) (u := 6) (z := 118 + z164) hI134 (by decide +kernel) (by omega) (by omega)
                  have f75 : ψ134 194 ((118 + z164).toNat) = ψ1 194 ((118 + z164).toNat) := (fr_at hF134 194 (by decide) ((118 + z164).toNat))
                  have f76 := iv_ar (a := 194) (s := 118) (t := 124) (lo := 0) (u := 6) (z := 118 + z164) hI1 (by decide +kernel) (by omega) (by omega)
                  have f77 : ψ1 194 ((118 + z164).toNat) = φ 194 ((118 + z164).toNat) := (fr_at hF1 194 (by decide) ((118 + z164).toNat))
                  have f78 := iv_ar (a := 194) (s := 118) (t := 124) (lo := 0) (u := 6) (z := 118 + z164) hI (by decide +kernel) (by omega) (by omega)
                  refine ⟨by unfold hi; omega, fun q167 => ?_, fun q167 => ?_⟩
                  · skip
                    have e167a := e166.trans (if_pos q167)
                    refine ⟨by unfold hi; omega, by unfold hi; omega, fun q168 => ?_, fun q168 => ?_⟩
                    · skip
                      have e168a := e167a.trans (if_pos q168)
                      exact hQ ψ165 hI165 hG165 e168a
                    · skip
                      have e168b := e167a.trans (if_neg q168)
                      refine sf_222_192 (φ := ψ165) hI165  (fun z170 hp170 hE170 => ⟨rfl, rfl, z170, rfl, ?_⟩)
                      have e170 := e168b.trans (bnp_e hE170)
                      refine ⟨by unfold hi; omega, fun q171 => ?_, fun q171 => ?_⟩
                      · skip
                        have e171a := e170.trans (if_pos q171)
                        exact hQ ψ165 hI165 hG165 e171a
                      · skip
                        have e171b := e170.trans (if_neg q171)
                        refine sf_223_192 (φ := ψ165) hI165  (fun ψ173 hI173 hF173 hE173 => ⟨rfl, rfl, ?_⟩)
                        have hG173 : Fr [194, 193029] φ ψ173 := fr_tr hG165 hF173 (by decide)
                        have e173 := e171b.trans (bnv_e hE173)
                        exact hQ ψ173 hI173 hG173 e173
                  · skip
                    have e167b := e166.trans (if_neg q167)
                    refine sf_220_192 (φ := ψ165) hI165 (by omega) (by omega) (by omega) (by omega) (by omega) (fun ψ175 hI175 hF175 hE175 => ⟨rfl, rfl, ?_⟩)
                    have hG175 : Fr [194, 193029] φ ψ175 := fr_tr hG165 hF175 (by decide)
                    have e175 := e167b.trans (bnv_e hE175)
                    refine ⟨by unfold hi; omega, by unfold hi; omega, fun q176 => ?_, fun q176 => ?_⟩
                    · skip
                      have e176a := e175.trans (if_pos q176)
                      exact hQ ψ175 hI175 hG175 e176a
                    · skip
                      have e176b := e175.trans (if_neg q176)
                      refine sf_222_192 (φ := ψ175) hI175  (fun z178 hp178 hE178 => ⟨rfl, rfl, z178, rfl, ?_⟩)
                      have e178 := e176b.trans (bnp_e hE178)
                      refine ⟨by unfold hi; omega, fun q179 => ?_, fun q179 => ?_⟩
                      · skip
                        have e179a := e178.trans (if_pos q179)
                        exact hQ ψ175 hI175 hG175 e179a
                      · skip
                        have e179b := e178.trans (if_neg q179)
                        refine sf_223_192 (φ := ψ175) hI175  (fun ψ181 hI181 hF181 hE181 => ⟨rfl, rfl, ?_⟩)
                        have hG181 : Fr [194, 193029] φ ψ181 := fr_tr hG175 hF181 (by decide)
                        have e181 := e179b.trans (bnv_e hE181)
                        exact hQ ψ181 hI181 hG181 e181
          · skip
            have e139b := e138.trans (if_neg q139)
            refine ⟨by omega, by omega, ?_⟩
            have i79 : Inv (hf_up ψ135 194 ((112 + z134).toNat) (z135 + 1)) := iv_upI (s := 112) (t := 118) (lo := 0) (u := 8) (z := 112 + z134) hI135 (by decide +kernel) (by omega) (by omega) (by omega) (by omega)
            have r79 : Fr [194, 193029] φ (hf_up ψ135 194 ((112 + z134).toNat) (z135 + 1)) := fr_upa hG135 (by decide)
            refine ⟨by unfold hi; omega, by unfold hi; omega, fun q184 => ?_, fun q184 => ?_⟩
            · skip
              have e184a := e139b.trans (if_pos q184)
              refine ⟨by unfold hi; omega, by unfold hi; omega, fun q185 => ?_, fun q185 => ?_⟩
              · skip
                have e185a := e184a.trans (if_pos q185)
                exact hQ (hf_up ψ135 194 ((112 + z134).toNat) (z135 + 1)) i79 r79 e185a
              · skip
                have e185b := e184a.trans (if_neg q185)
                refine sf_222_192 (φ := (hf_up ψ135 194 ((112 + z134).toNat) (z135 + 1))) i79  (fun z187 hp187 hE187 => ⟨rfl, rfl, z187, rfl, ?_⟩)
                have e187 := e185b.trans (bnp_e hE187)
                refine ⟨by unfold hi; omega, fun q188 => ?_, fun q188 => ?_⟩
                · skip
                  have e188a := e187.trans (if_pos q188)
                  exact hQ (hf_up ψ135 194 ((112 + z134).toNat) (z135 + 1)) i79 r79 e188a
                · skip
                  have e188b := e187.trans (if_neg q188)
                  refine sf_223_192 (φ := (hf_up ψ135 194 ((112 + z134).toNat) (z135 + 1))) i79  (fun ψ190 hI190 hF190 hE190 => ⟨rfl, rfl, ?_⟩)
                  have hG190 : Fr [194, 193029] φ ψ190 := fr_tr r79 hF190 (by decide)
                  have e190 := e188b.trans (bnv_e hE190)
                  exact hQ ψ190 hI190 hG190 e190
            · skip
              have e184b := e139b.trans (if_neg q184)
              have f80 := iv_at (a := 194) (k := 3) (lo := 0) (u := 6) i79 (by decide +kernel)
              refine ⟨by unfold hi; omega, fun q192 => ?_, fun q192 => ?_⟩
              · skip
                have e192a := e184b.trans (if_pos q192)
                refine ⟨by unfold hi; omega, by unfold hi; omega, fun q193 => ?_, fun q193 => ?_⟩
                · skip
                  have e193a := e192a.trans (if_pos q193)
                  exact hQ (hf_up ψ135 194 ((112 + z134).toNat) (z135 + 1)) i79 r79 e193a
                · skip
                  have e193b := e192a.trans (if_neg q193)
                  refine sf_222_192 (φ := (hf_up ψ135 194 ((112 + z134).toNat) (z135 + 1))) i79  (fun z195 hp195 hE195 => ⟨rfl, rfl, z195, rfl, ?_⟩)
                  have e195 := e193b.trans (bnp_e hE195)
                  refine ⟨by unfold hi; omega, fun q196 => ?_, fun q196 => ?_⟩
                  · skip
                    have e196a := e195.trans (if_pos q196)
                    exact hQ (hf_up ψ135 194 ((112 + z134).toNat) (z135 + 1)) i79 r79 e196a
                  · skip
                    have e196b := e195.trans (if_neg q196)
                    refine sf_223_192 (φ := (hf_up ψ135 194 ((112 + z134).toNat) (z135 + 1))) i79  (fun ψ198 hI198 hF198 hE198 => ⟨rfl, rfl, ?_⟩)
                    have hG198 : Fr [194, 193029] φ ψ198 := fr_tr r79 hF198 (by decide)
                    have e198 := e196b.trans (bnv_e hE198)
                    exact hQ ψ198 hI198 hG198 e198
              · skip
                have e192b := e184b.trans (if_neg q192)
                have f81 := iv_at (a := 194) (k := 2) (lo := 0) (u := 8) i79 (by decide +kernel)
                refine ⟨by unfold hi; omega, fun q200 => ?_, fun q200 => ?_⟩
                · skip
                  have e200a := e192b.trans (if_pos q200)
                  refine ⟨by unfold hi; omega, by unfold hi; omega, fun q201 => ?_, fun q201 => ?_⟩
                  · skip
                    have e201a := e200a.trans (if_pos q201)
                    exact hQ (hf_up ψ135 194 ((112 + z134).toNat) (z135 + 1)) i79 r79 e201a
                  · skip
                    have e201b := e200a.trans (if_neg q201)
                    refine sf_222_192 (φ := (hf_up ψ135 194 ((112 + z134).toNat) (z135 + 1))) i79  (fun z203 hp203 hE203 => ⟨rfl, rfl, z203, rfl, ?_⟩)
                    have e203 := e201b.trans (bnp_e hE203)
                    refine ⟨by unfold hi; omega, fun q204 => ?_, fun q204 => ?_⟩
                    · skip
                      have e204a := e203.trans (if_pos q204)
                      exact hQ (hf_up ψ135 194 ((112 + z134).toNat) (z135 + 1)) i79 r79 e204a
                    · skip
                      have e204b := e203.trans (if_neg q204)
                      refine sf_223_192 (φ := (hf_up ψ135 194 ((112 + z134).toNat) (z135 + 1))) i79  (fun ψ206 hI206 hF206 hE206 => ⟨rfl, rfl, ?_⟩)
                      have hG206 : Fr [194, 193029] φ ψ206 := fr_tr r79 hF206 (by decide)
                      have e206 := e204b.trans (bnv_e hE206)
                      exact hQ ψ206 hI206 hG206 e206
                · skip
                  have e200b := e192b.trans (if_neg q200)
                  refine sf_257_192 (φ := (hf_up ψ135 194 ((112 + z134).toNat) (z135 + 1))) i79 (by omega) (by omega) (fun z208 ψ208 hI208 hF208 hp208 hE208 => ⟨rfl, z208, rfl, ?_⟩)
                  have hG208 : Fr [194, 193029] φ ψ208 := fr_tr r79 hF208 (by decide)
                  have e208 := e200b.trans (bnd_e hE208)
                  have f82 := iv_at (a := 194) (k := 2) (lo := 0) (u := 8) hI208 (by decide +kernel)
                  have f83 : ψ208 194 2 = ψ135 194 2 := (fr_at hF208 194 (by decide) 2).trans (hf_up_ne (fun q => absurd q.2 (by omega)))
                  refine sf_257_192 (φ := ψ208) hI208 (by omega) (by omega) (fun z209 ψ209 hI209 hF209 hp209 hE209 => ⟨rfl, z209, rfl, ?_⟩)
                  have hG209 : Fr [194, 193029] φ ψ209 := fr_tr hG208 hF209 (by decide)
                  have e209 := e208.trans (bnd_e hE209)
                  refine sf_219_192 (φ := ψ209) hI209 (by omega) (by omega) (fun z210 hp210 hE210 => ⟨rfl, rfl, z210, rfl, ?_⟩)
                  have e210 := e209.trans (bnp_e hE210)
                  have f84 := iv_ar (a := 194) (s := 118) (t := 124) (lo := 0) (u := 6) (z := 118 + z208) hI209 (by decide +kernel) (by omega) (by omega)
                  have f85 : ψ209 194 ((118 + z208).toNat) = ψ208 194 ((118 + z208).toNat) := (fr_at hF209 194 (by decide) ((118 + z208).toNat))
                  have f86 := iv_ar (a := 194) (s := 118) (t := 124) (lo := 0) (u := 6) (z := 118 + z208) hI208 (by decide +kernel) (by omega) (by omega)
                  have f87 : ψ208 194 ((118 + z208).toNat) = ψ135 194 ((118 + z208).toNat) := (fr_at hF208 194 (by decide) ((118 + z208).toNat)).trans (hf_up_ne (fun q => absurd q.2 (by omega)))
                  have f88 := iv_ar (a := 194) (s := 118) (t := 124) (lo := 0) (u := 6) (z := 118 + z208) i79 (by decide +kernel) (by omega) (by omega)
                  refine ⟨by unfold hi; omega, fun q211 => ?_, fun q211 => ?_⟩
                  · skip
                    have e211a := e210.trans (if_pos q211)
                    refine ⟨by unfold hi; omega, by unfold hi; omega, fun q212 => ?_, fun q212 => ?_⟩
                    · skip
                      have e212a := e211a.trans (if_pos q212)
                      exact hQ ψ209 hI209 hG209 e212a
                    · skip
                      have e212b := e211a.trans (if_neg q212)
                      refine sf_222_192 (φ := ψ209) hI209  (fun z214 hp214 hE214 => ⟨rfl, rfl, z214, rfl, ?_⟩)
                      have e214 := e212b.trans (bnp_e hE214)
                      refine ⟨by unfold hi; omega, fun q215 => ?_, fun q215 => ?_⟩
                      · skip
                        have e215a := e214.trans (if_pos q215)
                        exact hQ ψ209 hI209 hG209 e215a
                      · skip
                        have e215b := e214.trans (if_neg q215)
                        refine sf_223_192 (φ := ψ209) hI209  (fun ψ217 hI217 hF217 hE217 => ⟨rfl, rfl, ?_⟩)
                        have hG217 : Fr [194, 193029] φ ψ217 := fr_tr hG209 hF217 (by decide)
                        have e217 := e215b.trans (bnv_e hE217)
                        exact hQ ψ217 hI217 hG217 e217
                  · skip
                    have e211b := e210.trans (if_neg q211)
                    refine sf_220_192 (φ := ψ209) hI209 (by omega) (by omega) (by omega) (by omega) (by omega) (fun ψ219 hI219 hF219 hE219 => ⟨rfl, rfl, ?_⟩)
                    have hG219 : Fr [194, 193029] φ ψ219 := fr_tr hG209 hF219 (by decide)
                    have e219 := e211b.trans (bnv_e hE219)
                    refine ⟨by unfold hi; omega, by unfold hi; omega, fun q220 => ?_, fun q220 => ?_⟩
                    · skip
                      have e220a := e219.trans (if_pos q220)
                      exact hQ ψ219 hI219 hG219 e220a
                    · skip
                      have e220b := e219.trans (if_neg q220)
                      refine sf_222_192 (φ := ψ219) hI219  (fun z222 hp222 hE222 => ⟨rfl, rfl, z222, rfl, ?_⟩)
                      have e222 := e220b.trans (bnp_e hE222)
                      refine ⟨by unfold hi; omega, fun q223 => ?_, fun q223 => ?_⟩
                      · skip
                        have e223a := e222.trans (if_pos q223)
                        exact hQ ψ219 hI219 hG219 e223a
                      · skip
                        have e223b := e222.trans (if_neg q223)
                        refine sf_223_192 (φ := ψ219) hI219  (fun ψ225 hI225 hF225 hE225 => ⟨rfl, rfl, ?_⟩)
                        have hG225 : Fr [194, 193029] φ ψ225 := fr_tr hG219 hF225 (by decide)
                        have e225 := e223b.trans (bnv_e hE225)
                        exact hQ ψ225 hI225 hG225 e225
        · skip
          have e137b := e135.trans (if_neg q137)
          refine ⟨by omega, by omega, ?_⟩
          have i89 : Inv (hf_up ψ135 194 ((112 + z134).toNat) 0) := iv_upI (s := 112) (t := 118) (lo := 0) (u := 8) (z := 112 + z134) hI135 (by decide +kernel) (by omega) (by omega) (by omega) (by omega)
          have r89 : Fr [194, 193029] φ (hf_up ψ135 194 ((112 + z134).toNat) 0) := fr_upa hG135 (by decide)
          refine ⟨by unfold hi; omega, by unfold hi; omega, fun q228 => ?_, fun q228 => ?_⟩
          · skip
            have e228a := e137b.trans (if_pos q228)
            refine ⟨by unfold hi; omega, by unfold hi; omega, fun q229 => ?_, fun q229 => ?_⟩
            · skip
              have e229a := e228a.trans (if_pos q229)
              exact hQ (hf_up ψ135 194 ((112 + z134).toNat) 0) i89 r89 e229a
            · skip
              have e229b := e228a.trans (if_neg q229)
              refine sf_222_192 (φ := (hf_up ψ135 194 ((112 + z134).toNat) 0)) i89  (fun z231 hp231 hE231 => ⟨rfl, rfl, z231, rfl, ?_⟩)
              have e231 := e229b.trans (bnp_e hE231)
              refine ⟨by unfold hi; omega, fun q232 => ?_, fun q232 => ?_⟩
              · skip
                have e232a := e231.trans (if_pos q232)
                exact hQ (hf_up ψ135 194 ((112 + z134).toNat) 0) i89 r89 e232a
              · skip
                have e232b := e231.trans (if_neg q232)
                refine sf_223_192 (φ := (hf_up ψ135 194 ((112 + z134).toNat) 0)) i89  (fun ψ234 hI234 hF234 hE234 => ⟨rfl, rfl, ?_⟩)
                have hG234 : Fr [194, 193029] φ ψ234 := fr_tr r89 hF234 (by decide)
                have e234 := e232b.trans (bnv_e hE234)
                exact hQ ψ234 hI234 hG234 e234
          · skip
            have e228b := e137b.trans (if_neg q228)
            have f90 := iv_at (a := 194) (k := 3) (lo := 0) (u := 6) i89 (by decide +kernel)
            refine ⟨by unfold hi; omega, fun q236 => ?_, fun q236 => ?_⟩
            · skip
              have e236a := e228b.trans (if_pos q236)
              refine ⟨by unfold hi; omega, by unfold hi; omega, fun q237 => ?_, fun q237 => ?_⟩
              · skip
                have e237a := e236a.trans (if_pos q237)
                exact hQ (hf_up ψ135 194 ((112 + z134).toNat) 0) i89 r89 e237a
              · skip
                have e237b := e236a.trans (if_neg q237)
                refine sf_222_192 (φ := (hf_up ψ135 194 ((112 + z134).toNat) 0)) i89  (fun z239 hp239 hE239 => ⟨rfl, rfl, z239, rfl, ?_⟩)
                have e239 := e237b.trans (bnp_e hE239)
                refine ⟨by unfold hi; omega, fun q240 => ?_, fun q240 => ?_⟩
                · skip
                  have e240a := e239.trans (if_pos q240)
                  exact hQ (hf_up ψ135 194 ((112 + z134).toNat) 0) i89 r89 e240a
                · skip
                  have e240b := e239.trans (if_neg q240)
                  refine sf_223_192 (φ := (hf_up ψ135 194 ((112 + z134).toNat) 0)) i89  (fun ψ242 hI242 hF242 hE242 => ⟨rfl, rfl, ?_⟩)
                  have hG242 : Fr [194, 193029] φ ψ242 := fr_tr r89 hF242 (by decide)
                  have e242 := e240b.trans (bnv_e hE242)
                  exact hQ ψ242 hI242 hG242 e242
            · skip
              have e236b := e228b.trans (if_neg q236)
              have f91 := iv_at (a := 194) (k := 2) (lo := 0) (u := 8) i89 (by decide +kernel)
              refine ⟨by unfold hi; omega, fun q244 => ?_, fun q244 => ?_⟩
              · skip
                have e244a := e236b.trans (if_pos q244)
                refine ⟨by unfold hi; omega, by unfold hi; omega, fun q245 => ?_, fun q245 => ?_⟩
                · skip
                  have e245a := e244a.trans (if_pos q245)
                  exact hQ (hf_up ψ135 194 ((112 + z134).toNat) 0) i89 r89 e245a
                · skip
                  have e245b := e244a.trans (if_neg q245)
                  refine sf_222_192 (φ := (hf_up ψ135 194 ((112 + z134).toNat) 0)) i89  (fun z247 hp247 hE247 => ⟨rfl, rfl, z247, rfl, ?_⟩)
                  have e247 := e245b.trans (bnp_e hE247)
                  refine ⟨by unfold hi; omega, fun q248 => ?_, fun q248 => ?_⟩
                  · skip
                    have e248a := e247.trans (if_pos q248)
                    exact hQ (hf_up ψ135 194 ((112 + z134).toNat) 0) i89 r89 e248a
                  · skip
                    have e248b := e247.trans (if_neg q248)
                    refine sf_223_192 (φ := (hf_up ψ135 194 ((112 + z134).toNat) 0)) i89  (fun ψ250 hI250 hF250 hE250 => ⟨rfl, rfl, ?_⟩)
                    have hG250 : Fr [194, 193029] φ ψ250 := fr_tr r89 hF250 (by decide)
                    have e250 := e248b.trans (bnv_e hE250)
                    exact hQ ψ250 hI250 hG250 e250
              · skip
                have e244b := e236b.trans (if_neg q244)
                refine sf_257_192 (φ := (hf_up ψ135 194 ((112 + z134).toNat) 0)) i89 (by omega) (by omega) (fun z252 ψ252 hI252 hF252 hp252 hE252 => ⟨rfl, z252, rfl, ?_⟩)
                have hG252 : Fr [194, 193029] φ ψ252 := fr_tr r89 hF252 (by decide)
                have e252 := e244b.trans (bnd_e hE252)
                have f92 := iv_at (a := 194) (k := 2) (lo := 0) (u := 8) hI252 (by decide +kernel)
                have f93 : ψ252 194 2 = ψ135 194 2 := (fr_at hF252 194 (by decide) 2).trans (hf_up_ne (fun q => absurd q.2 (by omega)))
                refine sf_257_192 (φ := ψ252) hI252 (by omega) (by omega) (fun z253 ψ253 hI253 hF253 hp253 hE253 => ⟨rfl, z253, rfl, ?_⟩)
                have hG253 : Fr [194, 193029] φ ψ253 := fr_tr hG252 hF253 (by decide)
                have e253 := e252.trans (bnd_e hE253)
                refine sf_219_192 (φ := ψ253) hI253 (by omega) (by omega) (fun z254 hp254 hE254 => ⟨rfl, rfl, z254, rfl, ?_⟩)
                have e254 := e253.trans (bnp_e hE254)
                have f94 := iv_ar (a := 194) (s := 118) (t := 124) (lo := 0) (u := 6) (z := 118 + z252) hI253 (by decide +kernel) (by omega) (by omega)
                have f95 : ψ253 194 ((118 + z252).toNat) = ψ252 194 ((118 + z252).toNat) := (fr_at hF253 194 (by decide) ((118 + z252).toNat))
                have f96 := iv_ar (a := 194) (s := 118) (t := 124) (lo := 0) (u := 6) (z := 118 + z252) hI252 (by decide +kernel) (by omega) (by omega)
                have f97 : ψ252 194 ((118 + z252).toNat) = ψ135 194 ((118 + z252).toNat) := (fr_at hF252 194 (by decide) ((118 + z252).toNat)).trans (hf_up_ne (fun q => absurd q.2 (by omega)))
                have f98 := iv_ar (a := 194) (s := 118) (t := 124) (lo := 0) (u := 6) (z := 118 + z252) i89 (by decide +kernel) (by omega) (by omega)
                refine ⟨by unfold hi; omega, fun q255 => ?_, fun q255 => ?_⟩
                · skip
                  have e255a := e254.trans (if_pos q255)
                  refine ⟨by unfold hi; omega, by unfold hi; omega, fun q256 => ?_, fun q256 => ?_⟩
                  · skip
                    have e256a := e255a.trans (if_pos q256)
                    exact hQ ψ253 hI253 hG253 e256a
                  · skip
                    have e256b := e255a.trans (if_neg q256)
                    refine sf_222_192 (φ := ψ253) hI253  (fun z258 hp258 hE258 => ⟨rfl, rfl, z258, rfl, ?_⟩)
                    have e258 := e256b.trans (bnp_e hE258)
                    refine ⟨by unfold hi; omega, fun q259 => ?_, fun q259 => ?_⟩
                    · skip
                      have e259a := e258.trans (if_pos q259)
                      exact hQ ψ253 hI253 hG253 e259a
                    · skip
                      have e259b := e258.trans (if_neg q259)
                      refine sf_223_192 (φ := ψ253) hI253  (fun ψ261 hI261 hF261 hE261 => ⟨rfl, rfl, ?_⟩)
                      have hG261 : Fr [194, 193029] φ ψ261 := fr_tr hG253 hF261 (by decide)
                      have e261 := e259b.trans (bnv_e hE261)
                      exact hQ ψ261 hI261 hG261 e261
                · skip
                  have e255b := e254.trans (if_neg q255)
                  refine sf_220_192 (φ := ψ253) hI253 (by omega) (by omega) (by omega) (by omega) (by omega) (fun ψ263 hI263 hF263 hE263 => ⟨rfl, rfl, ?_⟩)
                  have hG263 : Fr [194, 193029] φ ψ263 := fr_tr hG253 hF263 (by decide)
                  have e263 := e255b.trans (bnv_e hE263)
                  refine ⟨by unfold hi; omega, by unfold hi; omega, fun q264 => ?_, fun q264 => ?_⟩
                  · skip
                    have e264a := e263.trans (if_pos q264)
                    exact hQ ψ263 hI263 hG263 e264a
                  · skip
                    have e264b := e263.trans (if_neg q264)
                    refine sf_222_192 (φ := ψ263) hI263  (fun z266 hp266 hE266 => ⟨rfl, rfl, z266, rfl, ?_⟩)
                    have e266 := e264b.trans (bnp_e hE266)
                    refine ⟨by unfold hi; omega, fun q267 => ?_, fun q267 => ?_⟩
                    · skip
                      have e267a := e266.trans (if_pos q267)
                      exact hQ ψ263 hI263 hG263 e267a
                    · skip
                      have e267b := e266.trans (if_neg q267)
                      refine sf_223_192 (φ := ψ263) hI263  (fun ψ269 hI269 hF269 hE269 => ⟨rfl, rfl, ?_⟩)
                      have hG269 : Fr [194, 193029] φ ψ269 := fr_tr hG263 hF269 (by decide)
                      have e269 := e267b.trans (bnv_e hE269)
                      exact hQ ψ269 hI269 hG269 e269
theorem sf_255_192_v7 {sc : List Int} {d : Nat} {φ : hf_F} {x : Nat} {Q : Option jm_V → hf_F → Nat → Prop} {L : jm_L} {l1 l2 l3 : Int} (g0 : jm_get L 0 = some (2, 192)) (g1 : jm_get L 1 = some (0, l1)) (g2 : jm_get L 2 = some (0, l2)) (g3 : jm_get L 3 = some (0, l3))
    (H : hi l3 ∧ hi l1 ∧ (l1 ≤ l3 → Q (some (0, l3)) φ x) ∧ (¬ l1 ≤ l3 → hi 1000 ∧ (1000 ≤ (jm_n (φ 194 99)) → Q (some (0, l3)) φ x) ∧ (¬ 1000 ≤ (jm_n (φ 194 99)) → hw sc (d + 2) 256 0 [(0, (2, 192))] [] φ x (fun r ψ5 y5 => y5 = x ∧ (r = none ∧ (hw sc (d + 2) 226 0 [(0, (2, 192))] [] ψ5 x (fun r ψ6 y6 => y6 = x ∧ (r = none ∧ (hw sc (d + 3) 255 7 (jm_st1 L 3 (0, l3 + 1)) [] ψ6 x Q))))))))) :
    hw sc (d + 3) 255 7 L [] φ x Q := by
  refine hw_ld (b := 3) (e := 0) (by decide +kernel) g3 ?_
  refine hw_ld (b := 1) (e := 0) (by decide +kernel) g1 ?_
  obtain ⟨hz1, hy1, ht1, hf1⟩ := H
  refine hw_if2 (a0 := 0) (b := 3) (e := 39) (by decide +kernel) hz1 hy1 (fun q => ?_) (fun q => ?_)
  · have H := ht1 q
    refine hw_ld (b := 3) (e := 0) (by decide +kernel) g3 ?_
    exact hw_ret (a0 := 0) (e := 0) (by decide +kernel) (Or.inl rfl) H
  · have H := hf1 q
    refine hw_ald (b := 0) (e := 0) (by decide +kernel) g0 (by decide) ?_
    refine hr_gr (w := 194) (b := 12) (e := 6) 192 rfl (by decide +kernel) ?_
    refine hw_k (c := 99) (b := 1) (e := 2) (by decide +kernel) ?_
    refine hr_al (b := 0) (a0 := 0) (e := 0) (n := 361) (w := φ 194 99) 194 rfl (by decide +kernel) (by decide) (by decide) (by decide) rfl ?_
    refine hw_k (c := 1000) (b := 2) (e := 3) (by decide +kernel) ?_
    obtain ⟨hz3, ht3, hf3⟩ := H
    refine hw_if2l (a0 := 0) (b := 3) (e := 39) (by decide +kernel) hz3 (fun q => ?_) (fun q => ?_)
    · have H := ht3 q
      refine hw_ld (b := 3) (e := 0) (by decide +kernel) g3 ?_
      exact hw_ret (a0 := 0) (e := 0) (by decide +kernel) (Or.inl rfl) H
    · have H := hf3 q
      refine hw_ald (b := 0) (e := 0) (by decide +kernel) g0 (by decide) ?_
      refine hr_call (a0 := 22) (b := 256) (e := 1) (nl := 4) (As := []) (R := []) 192 rfl (by decide +kernel) rfl rfl (Nat.le_of_ble_eq_true rfl) (Nat.le_of_ble_eq_true rfl) ?_
      refine hw_mono H ?_
      rintro r ψ5 y5 ⟨hyx, hr, H⟩
      subst hyx
      subst hr
      refine ⟨hnen, ?_⟩
      show hw sc (d + 3) 255 29 L [] ψ5 y5 Q
      refine hw_ald (b := 0) (e := 0) (by decide +kernel) g0 (by decide) ?_
      refine hr_call (a0 := 22) (b := 226) (e := 1) (nl := 3) (As := []) (R := []) 192 rfl (by decide +kernel) rfl rfl (Nat.le_of_ble_eq_true rfl) (Nat.le_of_ble_eq_true rfl) ?_
      refine hw_mono H ?_
      rintro r ψ6 y6 ⟨hyx, hr, H⟩
      subst hyx
      subst hr
      refine ⟨hnen, ?_⟩
      show hw sc (d + 3) 255 33 L [] ψ6 y6 Q
      refine hw_inc (L' := (jm_st1 L 3 (0, l3 + 1))) (c := 1) (b := 3) (e := 0) (by decide +kernel) g3 rfl ?_
      refine hw_goto (a0 := 0) (b := 0) (e := 7) (by decide +kernel) ?_
      exact H
theorem sf_255_192_l7 {sc : List Int} {d x : Nat} {Q : Option jm_V → hf_F → Nat → Prop} : ∀ (n : Nat) (φ : hf_F) (L : jm_L) (l1 l2 l3 : Int), jm_get L 0 = some (2, 192) → jm_get L 1 = some (0, l1) → jm_get L 2 = some (0, l2) → jm_get L 3 = some (0, l3) → Inv φ → 60 - l3 < (n : Int) → 1 ≤ l1 → l1 ≤ 60 → 0 ≤ l3 → l3 ≤ 60 → (∀ (r : Int) (ψ : hf_F), Inv ψ → Fr [194, 193029] φ ψ → True → F_RideLawsModel_draws_192_l7 n φ l1 l2 l3 = (r, ψ) → Q (some (0, r)) ψ x) → hw sc (d + 3) 255 7 L [] φ x Q := by
  intro n
  induction n with
  | zero =>
    intro φ L l1 l2 l3 g0 g1 g2 g3 hI hM b1a b1b b3a b3b hQ
    exfalso
    omega
  | succ n ih =>
    intro φ L l1 l2 l3 g0 g1 g2 g3 hI hM b1a b1b b3a b3b hQ
    refine sf_255_192_v7 g0 g1 g2 g3 ?_
    have e0 := F_RideLawsModel_draws_192_l7_s (φ := φ) (l1 := l1) (l2 := l2) (l3 := l3) n
    refine ⟨by unfold hi; omega, by unfold hi; omega, fun q1 => ?_, fun q1 => ?_⟩
    · skip
      have e1a := e0.trans (if_pos q1)
      exact hQ l3 φ hI (fr_rf) trivial e1a
    · skip
      have e1b := e0.trans (if_neg q1)
      have f1 := hr_n (φ 194 99)
      refine ⟨by unfold hi; omega, fun q3 => ?_, fun q3 => ?_⟩
      · skip
        have e3a := e1b.trans (if_pos q3)
        exact hQ l3 φ hI (fr_rf) trivial e3a
      · skip
        have e3b := e1b.trans (if_neg q3)
        refine sf_256_192 (φ := φ) hI  (fun ψ5 hI5 hF5 hE5 => ⟨rfl, rfl, ?_⟩)
        have hG5 : Fr [194, 193029] φ ψ5 := fr_tr (fr_rf) hF5 (by decide)
        have e5 := e3b.trans (bnv_e hE5)
        refine sf_226_192 (φ := ψ5) hI5  (fun ψ6 hI6 hF6 hE6 => ⟨rfl, rfl, ?_⟩)
        have hG6 : Fr [194, 193029] φ ψ6 := fr_tr hG5 hF6 (by decide)
        have e6 := e5.trans (bnv_e hE6)
        exact ih ψ6 (jm_st1 L 3 (0, l3 + 1)) l1 l2 (l3 + 1) (get_st1 g0 (by decide) (fun q => absurd q.1 (by decide))) (get_st1 g1 (by decide) (fun q => absurd q.1 (by decide))) (get_st1 g2 (by decide) (fun q => tg0 q.2)) get_st1e hI6 (by omega) (by omega) (by omega) (by omega) (by omega) (fun rr χ hIχ hFχ hpχ hEχ => hQ rr χ hIχ (fr_tr hG6 hFχ (by decide)) hpχ (e6.trans hEχ))
theorem sf_255_192_v {sc : List Int} {d : Nat} {φ : hf_F} {x : Nat} {Q : Option jm_V → hf_F → Nat → Prop} {v1 v2 : Int}
    (H : hw sc (d + 3) 255 7 (jm_st1 [(0, (2, 192)), (1, (0, v1)), (2, (0, v2))] 3 (0, 0)) [] (hf_up φ 192 29 v2) x Q) :
    hw sc (d + 3) 255 0 [(0, (2, 192)), (1, (0, v1)), (2, (0, v2))] [] φ x Q := by
  refine hw_ald (b := 0) (e := 0) (by decide +kernel) rfl (by decide) ?_
  refine hw_ld (b := 2) (e := 0) (by decide +kernel) rfl ?_
  refine hr_pi (b := 12) (e := 29) 192 rfl (by decide +kernel) ?_
  refine hw_k (c := 0) (b := 0) (e := 1) (by decide +kernel) ?_
  refine hw_st (L' := (jm_st1 [(0, (2, 192)), (1, (0, v1)), (2, (0, v2))] 3 (0, 0))) (b := 3) (e := 0) (by decide +kernel) rfl ?_
  exact H
theorem sf_255_192 {sc : List Int} {d : Nat} {φ : hf_F} {x : Nat} {Q : Option jm_V → hf_F → Nat → Prop} {v1 v2 : Int} (hI : Inv φ) (h1a : 1 ≤ v1) (h1b : v1 ≤ 60) (hQ : ∀ (r : Int) (ψ : hf_F), Inv ψ → Fr [194, 193029] φ ψ → True → F_RideLawsModel_draws_192 φ v1 v2 = (r, ψ) → Q (some (0, r)) ψ x) : hw sc (d + 3) 255 0 [(0, (2, 192)), (1, (0, v1)), (2, (0, v2))] [] φ x Q := by
  apply sf_255_192_v
  have e0 : F_RideLawsModel_draws_192 φ v1 v2 = _ := rfl
  have i1 : Inv (hf_up φ 192 29 v2) := iv_upn hI (by decide) (by decide) (by decide +kernel)
  have r1 : Fr [194, 193029] φ (hf_up φ 192 29 v2) := fr_up (fr_rf) (by decide)
  exact sf_255_192_l7 ((60 - 0 : Int).toNat + 1) (hf_up φ 192 29 v2) (jm_st1 [(0, (2, 192)), (1, (0, v1)), (2, (0, v2))] 3 (0, 0)) v1 v2 0 (get_st1 rfl (by decide) (fun q => absurd q.1 (by decide))) (get_st1 rfl (by decide) (fun q => absurd q.1 (by decide))) (get_st1 rfl (by decide) (fun q => tg0 q.2)) get_st1e i1 (by omega) (by omega) (by omega) (by omega) (by omega) (fun rr χ hIχ hFχ hpχ hEχ => hQ rr χ hIχ (fr_tr r1 hFχ (by decide)) hpχ (e0.trans hEχ))
theorem sf_254_192_v {sc : List Int} {d : Nat} {φ : hf_F} {x : Nat} {Q : Option jm_V → hf_F → Nat → Prop} {v1 v2 : Int}
    (H : hw sc (d + 3) 188 0 [(0, (0, v1)), (1, (0, 1)), (2, (0, 60))] [] (hf_up φ 192 0 0) x (fun r ψ1 y1 => y1 = x ∧ (hf_up φ 192 0 0) = ψ1 ∧ (∃ z1 : Int, r = some (0, z1) ∧ (hi z1 ∧ (¬ z1 = 0 → hi 1000 ∧ (1000 ≤ (jm_n (φ 194 99)) → hw sc (d + 3) 255 0 [(0, (2, 192)), (1, (0, v1)), (2, (0, v2))] [] (hf_up φ 192 0 0) x (fun r ψ4 y4 => y4 = x ∧ (∃ z4 : Int, r = some (0, z4) ∧ (Q (some (0, z4)) ψ4 x)))) ∧ (¬ 1000 ≤ (jm_n (φ 194 99)) → hw sc (d + 3) 216 0 [(0, (2, 192))] [] (hf_up φ 192 0 0) x (fun r ψ6 y6 => y6 = x ∧ (r = none ∧ (hw sc (d + 3) 255 0 [(0, (2, 192)), (1, (0, v1)), (2, (0, v2))] [] ψ6 x (fun r ψ7 y7 => y7 = x ∧ (∃ z7 : Int, r = some (0, z7) ∧ (Q (some (0, z7)) ψ7 x)))))))) ∧ (¬ (¬ z1 = 0) → Q (some (0, (-1 : Int))) (hf_up φ 192 0 0) x))))) :
    hw sc (d + 4) 254 0 [(0, (2, 192)), (1, (0, v1)), (2, (0, v2))] [] φ x Q := by
  refine hw_ald (b := 0) (e := 0) (by decide +kernel) rfl (by decide) ?_
  refine hw_k (c := 0) (b := 0) (e := 1) (by decide +kernel) ?_
  refine hr_pi (b := 12) (e := 0) 192 rfl (by decide +kernel) ?_
  refine hw_ld (b := 1) (e := 0) (by decide +kernel) rfl ?_
  refine hw_k (c := 1) (b := 0) (e := 1) (by decide +kernel) ?_
  refine hw_k (c := 60) (b := 1) (e := 2) (by decide +kernel) ?_
  refine hr_calls (b := 188) (e := 3) (nl := 3) (As := [(0, v1), (0, 1), (0, 60)]) (R := []) (by decide +kernel) rfl rfl (Nat.le_of_ble_eq_true rfl) (Nat.le_of_ble_eq_true rfl) ?_
  refine hw_mono H ?_
  rintro r ψ1 y1 ⟨hyx, hψx, z1, hr, H⟩
  subst hyx
  subst hψx
  subst hr
  refine ⟨hne0, ?_⟩
  show hw sc (d + 4) 254 12 [(0, (2, 192)), (1, (0, v1)), (2, (0, v2))] [(0, z1)] (hf_up φ 192 0 0) y1 Q
  obtain ⟨hz2, ht2, hf2⟩ := H
  refine hw_if (a0 := 0) (b := 1) (e := 17) (by decide +kernel) hz2 (fun q => ?_) (fun q => ?_)
  · have H := ht2 q
    refine hw_ald (b := 0) (e := 0) (by decide +kernel) rfl (by decide) ?_
    refine hr_gr (w := 194) (b := 12) (e := 6) 192 rfl (by decide +kernel) ?_
    refine hw_k (c := 99) (b := 1) (e := 2) (by decide +kernel) ?_
    refine hr_al (b := 0) (a0 := 0) (e := 0) (n := 361) (w := φ 194 99) 194 rfl (by decide +kernel) (by decide) (by decide) (by decide) (hf_up_ne (fun q => absurd q.1 (by decide))) ?_
    refine hw_k (c := 1000) (b := 2) (e := 3) (by decide +kernel) ?_
    obtain ⟨hz3, ht3, hf3⟩ := H
    refine hw_if2l (a0 := 0) (b := 3) (e := 34) (by decide +kernel) hz3 (fun q => ?_) (fun q => ?_)
    · have H := ht3 q
      refine hw_ald (b := 0) (e := 0) (by decide +kernel) rfl (by decide) ?_
      refine hw_ld (b := 1) (e := 0) (by decide +kernel) rfl ?_
      refine hw_ld (b := 2) (e := 0) (by decide +kernel) rfl ?_
      refine hr_call (a0 := 22) (b := 255) (e := 3) (nl := 4) (As := [(0, v1), (0, v2)]) (R := []) 192 rfl (by decide +kernel) rfl rfl (Nat.le_of_ble_eq_true rfl) (Nat.le_of_ble_eq_true rfl) ?_
      refine hw_mono H ?_
      rintro r ψ4 y4 ⟨hyx, z4, hr, H⟩
      subst hyx
      subst hr
      refine ⟨hne0, ?_⟩
      show hw sc (d + 4) 254 40 [(0, (2, 192)), (1, (0, v1)), (2, (0, v2))] [(0, z4)] ψ4 y4 Q
      exact hw_ret (a0 := 0) (e := 0) (by decide +kernel) (Or.inl rfl) H
    · have H := hf3 q
      refine hw_ald (b := 0) (e := 0) (by decide +kernel) rfl (by decide) ?_
      refine hr_call (a0 := 22) (b := 216) (e := 1) (nl := 2) (As := []) (R := []) 192 rfl (by decide +kernel) rfl rfl (Nat.le_of_ble_eq_true rfl) (Nat.le_of_ble_eq_true rfl) ?_
      refine hw_mono H ?_
      rintro r ψ6 y6 ⟨hyx, hr, H⟩
      subst hyx
      subst hr
      refine ⟨hnen, ?_⟩
      show hw sc (d + 4) 254 34 [(0, (2, 192)), (1, (0, v1)), (2, (0, v2))] [] ψ6 y6 Q
      refine hw_ald (b := 0) (e := 0) (by decide +kernel) rfl (by decide) ?_
      refine hw_ld (b := 1) (e := 0) (by decide +kernel) rfl ?_
      refine hw_ld (b := 2) (e := 0) (by decide +kernel) rfl ?_
      refine hr_call (a0 := 22) (b := 255) (e := 3) (nl := 4) (As := [(0, v1), (0, v2)]) (R := []) 192 rfl (by decide +kernel) rfl rfl (Nat.le_of_ble_eq_true rfl) (Nat.le_of_ble_eq_true rfl) ?_
      refine hw_mono H ?_
      rintro r ψ7 y7 ⟨hyx, z7, hr, H⟩
      subst hyx
      subst hr
      refine ⟨hne0, ?_⟩
      show hw sc (d + 4) 254 40 [(0, (2, 192)), (1, (0, v1)), (2, (0, v2))] [(0, z7)] ψ7 y7 Q
      exact hw_ret (a0 := 0) (e := 0) (by decide +kernel) (Or.inl rfl) H
  · have H := hf2 q
    refine hw_k (c := (-1 : Int)) (b := 0) (e := 1) (by decide +kernel) ?_
    exact hw_ret (a0 := 0) (e := 0) (by decide +kernel) (Or.inl rfl) H
theorem sf_254_192 {sc : List Int} {d : Nat} {φ : hf_F} {x : Nat} {Q : Option jm_V → hf_F → Nat → Prop} {v1 v2 : Int} (hI : Inv φ) (h1a : (-2147483648 : Int) ≤ v1) (h1b : v1 ≤ 2147483647) (h2a : (-2147483648 : Int) ≤ v2) (h2b : v2 ≤ 2147483647) (hQ : ∀ (r : Int) (ψ : hf_F), Inv ψ → Fr [194, 199, 193000, 193022, 193029] φ ψ → True → F_RideLawsModel_drawn_192 φ v1 v2 = (r, ψ) → Q (some (0, r)) ψ x) : hw sc (d + 4) 254 0 [(0, (2, 192)), (1, (0, v1)), (2, (0, v2))] [] φ x Q := by
  apply sf_254_192_v
  have e0 : F_RideLawsModel_drawn_192 φ v1 v2 = _ := rfl
  have i1 : Inv (hf_up φ 192 0 0) := iv_up (lo := 0) (u := 1) hI (by decide +kernel) (by omega) (by omega)
  have r1 : Fr [194, 199, 193000, 193022, 193029] φ (hf_up φ 192 0 0) := fr_up (fr_rf) (by decide)
  refine sf_188 (φ := (hf_up φ 192 0 0)) i1 (by omega) (by omega) (by omega) (by omega) (by omega) (by omega) (fun z1 hp1 hE1 => ⟨rfl, rfl, z1, rfl, ?_⟩)
  have e1 := e0.trans (bnp_e hE1)
  refine ⟨by unfold hi; omega, fun q2 => ?_, fun q2 => ?_⟩
  · skip
    have e2a := e1.trans (if_pos q2)
    have f2 := hr_n (φ 194 99)
    refine ⟨by unfold hi; omega, fun q3 => ?_, fun q3 => ?_⟩
    · skip
      have e3a := e2a.trans (if_pos q3)
      refine sf_255_192 (φ := (hf_up φ 192 0 0)) i1 (by omega) (by omega) (fun z4 ψ4 hI4 hF4 hp4 hE4 => ⟨rfl, z4, rfl, ?_⟩)
      have hG4 : Fr [194, 199, 193000, 193022, 193029] φ ψ4 := fr_tr r1 hF4 (by decide)
      have e4 := e3a.trans (bnd_e hE4)
      exact hQ z4 ψ4 hI4 hG4 trivial e4
    · skip
      have e3b := e2a.trans (if_neg q3)
      refine sf_216_192 (φ := (hf_up φ 192 0 0)) i1  (fun ψ6 hI6 hF6 hV6 hE6 => ⟨rfl, rfl, ?_⟩)
      have hG6 : Fr [194, 199, 193000, 193022, 193029] φ ψ6 := fr_tr r1 hF6 (by decide)
      have f3 := iv_at (a := 192) (k := 22) (lo := 0) (u := 8) hI6 (by decide +kernel)
      have e6 := e3b.trans (bnv_e hE6)
      refine sf_255_192 (φ := ψ6) hI6 (by omega) (by omega) (fun z7 ψ7 hI7 hF7 hp7 hE7 => ⟨rfl, z7, rfl, ?_⟩)
      have hG7 : Fr [194, 199, 193000, 193022, 193029] φ ψ7 := fr_tr hG6 hF7 (by decide)
      have e7 := e6.trans (bnd_e hE7)
      exact hQ z7 ψ7 hI7 hG7 trivial e7
  · skip
    have e2b := e1.trans (if_neg q2)
    exact hQ (-1 : Int) (hf_up φ 192 0 0) i1 r1 trivial e2b
theorem sf_258_192_v35 {sc : List Int} {d : Nat} {φ : hf_F} {x : Nat} {Q : Option jm_V → hf_F → Nat → Prop} {L : jm_L} {l1 l2 l3 l4 l5 : Int} (g0 : jm_get L 0 = some (2, 192)) (g1 : jm_get L 1 = some (0, l1)) (g2 : jm_get L 2 = some (0, l2)) (g3 : jm_get L 3 = some (0, l3)) (g4 : jm_get L 4 = some (0, l4)) (g5 : jm_get L 5 = some (0, l5))
    (H : hi l5 ∧ hi l2 ∧ (l2 ≤ l5 → Q (some (0, l4)) φ x) ∧ (¬ l2 ≤ l5 → hw sc (d + 3) 255 0 [(0, (2, 192)), (1, (0, 30)), (2, (0, l3 + l5))] [] φ x (fun r ψ3 y3 => y3 = x ∧ (∃ z3 : Int, r = some (0, z3) ∧ (hw sc (d + 3) 235 0 [(0, (2, 192))] [] ψ3 x (fun r ψ4 y4 => y4 = x ∧ (r = none ∧ (hw sc (d + 4) 258 35 (jm_st1 (jm_st1 L 4 (0, l4 + (hb_and (hb_shr (ψ3 194 102) l1) 1))) 5 (0, l5 + 1)) [] ψ4 x Q)))))))) :
    hw sc (d + 4) 258 35 L [] φ x Q := by
  refine hw_ld (b := 5) (e := 1) (by decide +kernel) g5 ?_
  refine hw_ld (b := 2) (e := 0) (by decide +kernel) g2 ?_
  obtain ⟨hz1, hy1, ht1, hf1⟩ := H
  refine hw_if2 (a0 := 0) (b := 3) (e := 78) (by decide +kernel) hz1 hy1 (fun q => ?_) (fun q => ?_)
  · have H := ht1 q
    refine hw_ld (b := 4) (e := 1) (by decide +kernel) g4 ?_
    exact hw_ret (a0 := 0) (e := 0) (by decide +kernel) (Or.inl rfl) H
  · have H := hf1 q
    refine hw_ald (b := 0) (e := 0) (by decide +kernel) g0 (by decide) ?_
    refine hw_k (c := 30) (b := 1) (e := 2) (by decide +kernel) ?_
    refine hw_ld (b := 3) (e := 0) (by decide +kernel) g3 ?_
    refine hw_ld (b := 5) (e := 1) (by decide +kernel) g5 ?_
    refine hw_bin (w := l3 + l5) (a0 := 0) (b := 0) (e := 0) (by decide +kernel) rfl ?_
    refine hr_call (a0 := 22) (b := 255) (e := 3) (nl := 4) (As := [(0, 30), (0, l3 + l5)]) (R := []) 192 rfl (by decide +kernel) rfl rfl (Nat.le_of_ble_eq_true rfl) (Nat.le_of_ble_eq_true rfl) ?_
    refine hw_mono H ?_
    rintro r ψ3 y3 ⟨hyx, z3, hr, H⟩
    subst hyx
    subst hr
    refine ⟨hne0, ?_⟩
    show hw sc (d + 4) 258 51 L [(0, z3)] ψ3 y3 Q
    refine hw_pop (a0 := 0) (e := 0) (by decide +kernel) (by decide) ?_
    refine hw_ld (b := 4) (e := 1) (by decide +kernel) g4 ?_
    refine hw_ald (b := 0) (e := 0) (by decide +kernel) g0 (by decide) ?_
    refine hr_gr (w := 194) (b := 12) (e := 6) 192 rfl (by decide +kernel) ?_
    refine hw_k (c := 102) (b := 1) (e := 2) (by decide +kernel) ?_
    refine hr_al (b := 0) (a0 := 0) (e := 0) (n := 361) (w := ψ3 194 102) 194 rfl (by decide +kernel) (by decide) (by decide) (by decide) rfl ?_
    refine hw_ld (b := 1) (e := 0) (by decide +kernel) g1 ?_
    refine hw_bin (w := hb_shr (ψ3 194 102) l1) (a0 := 0) (b := 7) (e := 0) (by decide +kernel) rfl ?_
    refine hw_k (c := 1) (b := 0) (e := 1) (by decide +kernel) ?_
    refine hw_bin (w := hb_and (hb_shr (ψ3 194 102) l1) 1) (a0 := 0) (b := 3) (e := 0) (by decide +kernel) rfl ?_
    refine hw_bin (w := l4 + (hb_and (hb_shr (ψ3 194 102) l1) 1)) (a0 := 0) (b := 0) (e := 0) (by decide +kernel) rfl ?_
    refine hw_st (L' := (jm_st1 L 4 (0, l4 + (hb_and (hb_shr (ψ3 194 102) l1) 1)))) (b := 4) (e := 1) (by decide +kernel) rfl ?_
    refine hw_ald (b := 0) (e := 0) (by decide +kernel) (get_st1 g0 (by decide) (fun q => absurd q.1 (by decide))) (by decide) ?_
    refine hr_call (a0 := 22) (b := 235) (e := 1) (nl := 2) (As := []) (R := []) 192 rfl (by decide +kernel) rfl rfl (Nat.le_of_ble_eq_true rfl) (Nat.le_of_ble_eq_true rfl) ?_
    refine hw_mono H ?_
    rintro r ψ4 y4 ⟨hyx, hr, H⟩
    subst hyx
    subst hr
    refine ⟨hnen, ?_⟩
    show hw sc (d + 4) 258 72 (jm_st1 L 4 (0, l4 + (hb_and (hb_shr (ψ3 194 102) l1) 1))) [] ψ4 y4 Q
    refine hw_inc (L' := (jm_st1 (jm_st1 L 4 (0, l4 + (hb_and (hb_shr (ψ3 194 102) l1) 1))) 5 (0, l5 + 1))) (c := 1) (b := 5) (e := 0) (by decide +kernel) (get_st1 g5 (by decide) (fun q => absurd q.1 (by decide))) rfl ?_
    refine hw_goto (a0 := 0) (b := 0) (e := 35) (by decide +kernel) ?_
    exact H
theorem sf_258_192_l35 {sc : List Int} {d x : Nat} {Q : Option jm_V → hf_F → Nat → Prop} : ∀ (n : Nat) (φ : hf_F) (L : jm_L) (l1 l2 l3 l4 l5 : Int), jm_get L 0 = some (2, 192) → jm_get L 1 = some (0, l1) → jm_get L 2 = some (0, l2) → jm_get L 3 = some (0, l3) → jm_get L 4 = some (0, l4) → jm_get L 5 = some (0, l5) → Inv φ → 30 - l5 < (n : Int) → 0 ≤ l1 → l1 ≤ 7 → 1 ≤ l2 → l2 ≤ 30 → 0 ≤ l5 → l5 ≤ 30 → (∀ (r : Int) (ψ : hf_F), Inv ψ → Fr [194, 200, 193000, 193029] φ ψ → True → F_RideLawsModel_odds_192_l35 n φ l1 l2 l3 l4 l5 = (r, ψ) → Q (some (0, r)) ψ x) → hw sc (d + 4) 258 35 L [] φ x Q := by
  intro n
  induction n with
  | zero =>
    intro φ L l1 l2 l3 l4 l5 g0 g1 g2 g3 g4 g5 hI hM b1a b1b b2a b2b b5a b5b hQ
    exfalso
    omega
  | succ n ih =>
    intro φ L l1 l2 l3 l4 l5 g0 g1 g2 g3 g4 g5 hI hM b1a b1b b2a b2b b5a b5b hQ
    refine sf_258_192_v35 g0 g1 g2 g3 g4 g5 ?_
    have e0 := F_RideLawsModel_odds_192_l35_s (φ := φ) (l1 := l1) (l2 := l2) (l3 := l3) (l4 := l4) (l5 := l5) n
    refine ⟨by unfold hi; omega, by unfold hi; omega, fun q1 => ?_, fun q1 => ?_⟩
    · skip
      have e1a := e0.trans (if_pos q1)
      exact hQ l4 φ hI (fr_rf) trivial e1a
    · skip
      have e1b := e0.trans (if_neg q1)
      refine sf_255_192 (φ := φ) hI (by omega) (by omega) (fun z3 ψ3 hI3 hF3 hp3 hE3 => ⟨rfl, z3, rfl, ?_⟩)
      have hG3 : Fr [194, 200, 193000, 193029] φ ψ3 := fr_tr (fr_rf) hF3 (by decide)
      have e3 := e1b.trans (bnd_e hE3)
      have f1 := iv_at (a := 194) (k := 102) (lo := (-2147483648 : Int)) (u := 2147483647) hI3 (by decide +kernel)
      have f2 := hr_shr0 (ψ3 194 102) l1
      have f3 := hr_shr (ψ3 194 102) l1
      have f4 := hr_and0 (hb_shr (ψ3 194 102) l1) 1
      have f5 := hr_and1 (hb_shr (ψ3 194 102) l1)
      have f6 := hr_and (hb_shr (ψ3 194 102) l1) 1
      refine sf_235_192 (φ := ψ3) hI3  (fun ψ4 hI4 hF4 hE4 => ⟨rfl, rfl, ?_⟩)
      have hG4 : Fr [194, 200, 193000, 193029] φ ψ4 := fr_tr hG3 hF4 (by decide)
      have e4 := e3.trans (bnv_e hE4)
      exact ih ψ4 (jm_st1 (jm_st1 L 4 (0, l4 + (hb_and (hb_shr (ψ3 194 102) l1) 1))) 5 (0, l5 + 1)) l1 l2 l3 (l4 + (hb_and (hb_shr (ψ3 194 102) l1) 1)) (l5 + 1) (get_st1 (get_st1 g0 (by decide) (fun q => absurd q.1 (by decide))) (by decide) (fun q => absurd q.1 (by decide))) (get_st1 (get_st1 g1 (by decide) (fun q => absurd q.1 (by decide))) (by decide) (fun q => absurd q.1 (by decide))) (get_st1 (get_st1 g2 (by decide) (fun q => absurd q.1 (by decide))) (by decide) (fun q => absurd q.1 (by decide))) (get_st1 (get_st1 g3 (by decide) (fun q => tg0 q.2)) (by decide) (fun q => absurd q.1 (by decide))) (get_st1 get_st1e (by decide) (fun q => tg0 q.2)) get_st1e hI4 (by omega) (by omega) (by omega) (by omega) (by omega) (by omega) (by omega) (fun rr χ hIχ hFχ hpχ hEχ => hQ rr χ hIχ (fr_tr hG4 hFχ (by decide)) hpχ (e4.trans hEχ))
theorem sf_258_192_v {sc : List Int} {d : Nat} {φ : hf_F} {x : Nat} {Q : Option jm_V → hf_F → Nat → Prop} {v1 v2 v3 : Int}
    (H : hw sc (d + 3) 211 0 [(0, (2, 192)), (1, (0, v1))] [] (hf_up φ 192 0 0) x (fun r ψ1 y1 => y1 = x ∧ (hf_up φ 192 0 0) = ψ1 ∧ (∃ z1 : Int, r = some (0, z1) ∧ (hi z1 ∧ (z1 = 0 → Q (some (0, (-1 : Int))) (hf_up φ 192 0 0) x) ∧ (¬ z1 = 0 → hw sc (d + 3) 188 0 [(0, (0, v2)), (1, (0, 1)), (2, (0, 30))] [] (hf_up φ 192 0 0) x (fun r ψ4 y4 => y4 = x ∧ (hf_up φ 192 0 0) = ψ4 ∧ (∃ z4 : Int, r = some (0, z4) ∧ (hi z4 ∧ (¬ z4 = 0 → hw sc (d + 3) 233 0 [(0, (2, 192))] [] (hf_up φ 192 0 0) x (fun r ψ6 y6 => y6 = x ∧ (r = none ∧ (hw sc (d + 4) 258 35 (jm_st1 (jm_st1 [(0, (2, 192)), (1, (0, v1)), (2, (0, v2)), (3, (0, v3))] 4 (0, 0)) 5 (0, 0)) [] ψ6 x Q)))) ∧ (¬ (¬ z4 = 0) → Q (some (0, (-1 : Int))) (hf_up φ 192 0 0) x))))))))) :
    hw sc (d + 4) 258 0 [(0, (2, 192)), (1, (0, v1)), (2, (0, v2)), (3, (0, v3))] [] φ x Q := by
  refine hw_ald (b := 0) (e := 0) (by decide +kernel) rfl (by decide) ?_
  refine hw_k (c := 0) (b := 0) (e := 1) (by decide +kernel) ?_
  refine hr_pi (b := 12) (e := 0) 192 rfl (by decide +kernel) ?_
  refine hw_ald (b := 0) (e := 0) (by decide +kernel) rfl (by decide) ?_
  refine hw_ld (b := 1) (e := 0) (by decide +kernel) rfl ?_
  refine hr_call (a0 := 22) (b := 211) (e := 2) (nl := 2) (As := [(0, v1)]) (R := []) 192 rfl (by decide +kernel) rfl rfl (Nat.le_of_ble_eq_true rfl) (Nat.le_of_ble_eq_true rfl) ?_
  refine hw_mono H ?_
  rintro r ψ1 y1 ⟨hyx, hψx, z1, hr, H⟩
  subst hyx
  subst hψx
  subst hr
  refine ⟨hne0, ?_⟩
  show hw sc (d + 4) 258 10 [(0, (2, 192)), (1, (0, v1)), (2, (0, v2)), (3, (0, v3))] [(0, z1)] (hf_up φ 192 0 0) y1 Q
  obtain ⟨hz2, ht2, hf2⟩ := H
  refine hw_if (a0 := 0) (b := 0) (e := 23) (by decide +kernel) hz2 (fun q => ?_) (fun q => ?_)
  · have H := ht2 q
    refine hw_k (c := (-1 : Int)) (b := 0) (e := 1) (by decide +kernel) ?_
    exact hw_ret (a0 := 0) (e := 0) (by decide +kernel) (Or.inl rfl) H
  · have H := hf2 q
    refine hw_ld (b := 2) (e := 0) (by decide +kernel) rfl ?_
    refine hw_k (c := 1) (b := 0) (e := 1) (by decide +kernel) ?_
    refine hw_k (c := 30) (b := 1) (e := 2) (by decide +kernel) ?_
    refine hr_calls (b := 188) (e := 3) (nl := 3) (As := [(0, v2), (0, 1), (0, 30)]) (R := []) (by decide +kernel) rfl rfl (Nat.le_of_ble_eq_true rfl) (Nat.le_of_ble_eq_true rfl) ?_
    refine hw_mono H ?_
    rintro r ψ4 y4 ⟨hyx, hψx, z4, hr, H⟩
    subst hyx
    subst hψx
    subst hr
    refine ⟨hne0, ?_⟩
    show hw sc (d + 4) 258 20 [(0, (2, 192)), (1, (0, v1)), (2, (0, v2)), (3, (0, v3))] [(0, z4)] (hf_up φ 192 0 0) y4 Q
    obtain ⟨hz5, ht5, hf5⟩ := H
    refine hw_if (a0 := 0) (b := 1) (e := 25) (by decide +kernel) hz5 (fun q => ?_) (fun q => ?_)
    · have H := ht5 q
      refine hw_ald (b := 0) (e := 0) (by decide +kernel) rfl (by decide) ?_
      refine hr_call (a0 := 22) (b := 233) (e := 1) (nl := 2) (As := []) (R := []) 192 rfl (by decide +kernel) rfl rfl (Nat.le_of_ble_eq_true rfl) (Nat.le_of_ble_eq_true rfl) ?_
      refine hw_mono H ?_
      rintro r ψ6 y6 ⟨hyx, hr, H⟩
      subst hyx
      subst hr
      refine ⟨hnen, ?_⟩
      show hw sc (d + 4) 258 29 [(0, (2, 192)), (1, (0, v1)), (2, (0, v2)), (3, (0, v3))] [] ψ6 y6 Q
      refine hw_k (c := 0) (b := 0) (e := 1) (by decide +kernel) ?_
      refine hw_st (L' := (jm_st1 [(0, (2, 192)), (1, (0, v1)), (2, (0, v2)), (3, (0, v3))] 4 (0, 0))) (b := 4) (e := 1) (by decide +kernel) rfl ?_
      refine hw_k (c := 0) (b := 0) (e := 1) (by decide +kernel) ?_
      refine hw_st (L' := (jm_st1 (jm_st1 [(0, (2, 192)), (1, (0, v1)), (2, (0, v2)), (3, (0, v3))] 4 (0, 0)) 5 (0, 0))) (b := 5) (e := 1) (by decide +kernel) rfl ?_
      exact H
    · have H := hf5 q
      refine hw_k (c := (-1 : Int)) (b := 0) (e := 1) (by decide +kernel) ?_
      exact hw_ret (a0 := 0) (e := 0) (by decide +kernel) (Or.inl rfl) H
theorem sf_258_192 {sc : List Int} {d : Nat} {φ : hf_F} {x : Nat} {Q : Option jm_V → hf_F → Nat → Prop} {v1 v2 v3 : Int} (hI : Inv φ) (h1a : (-2147483648 : Int) ≤ v1) (h1b : v1 ≤ 2147483647) (h2a : (-2147483648 : Int) ≤ v2) (h2b : v2 ≤ 2147483647) (h3a : (-2147483648 : Int) ≤ v3) (h3b : v3 ≤ 2147483647) (hQ : ∀ (r : Int) (ψ : hf_F), Inv ψ → Fr [194, 200, 193000, 193029] φ ψ → True → F_RideLawsModel_odds_192 φ v1 v2 v3 = (r, ψ) → Q (some (0, r)) ψ x) : hw sc (d + 4) 258 0 [(0, (2, 192)), (1, (0, v1)), (2, (0, v2)), (3, (0, v3))] [] φ x Q := by
  apply sf_258_192_v
  have e0 : F_RideLawsModel_odds_192 φ v1 v2 v3 = _ := rfl
  have i1 : Inv (hf_up φ 192 0 0) := iv_up (lo := 0) (u := 1) hI (by decide +kernel) (by omega) (by omega)
  have r1 : Fr [194, 200, 193000, 193029] φ (hf_up φ 192 0 0) := fr_up (fr_rf) (by decide)
  refine sf_211_192 (φ := (hf_up φ 192 0 0)) i1 (by omega) (by omega) (fun z1 hp1 hE1 => ⟨rfl, rfl, z1, rfl, ?_⟩)
  have e1 := e0.trans (bnp_e hE1)
  have f2 : (hf_up φ 192 0 0) 194 4 = φ 194 4 := (hf_up_ne (fun q => absurd q.1 (by decide)))
  have f3 := iv_at (a := 194) (k := 4) (lo := 0) (u := 8) hI (by decide +kernel)
  refine ⟨by unfold hi; omega, fun q2 => ?_, fun q2 => ?_⟩
  · skip
    have e2a := e1.trans (if_pos q2)
    exact hQ (-1 : Int) (hf_up φ 192 0 0) i1 r1 trivial e2a
  · skip
    have e2b := e1.trans (if_neg q2)
    refine sf_188 (φ := (hf_up φ 192 0 0)) i1 (by omega) (by omega) (by omega) (by omega) (by omega) (by omega) (fun z4 hp4 hE4 => ⟨rfl, rfl, z4, rfl, ?_⟩)
    have e4 := e2b.trans (bnp_e hE4)
    refine ⟨by unfold hi; omega, fun q5 => ?_, fun q5 => ?_⟩
    · skip
      have e5a := e4.trans (if_pos q5)
      refine sf_233_192 (φ := (hf_up φ 192 0 0)) i1  (fun ψ6 hI6 hF6 hE6 => ⟨rfl, rfl, ?_⟩)
      have hG6 : Fr [194, 200, 193000, 193029] φ ψ6 := fr_tr r1 hF6 (by decide)
      have e6 := e5a.trans (bnv_e hE6)
      exact sf_258_192_l35 ((30 - 0 : Int).toNat + 1) ψ6 (jm_st1 (jm_st1 [(0, (2, 192)), (1, (0, v1)), (2, (0, v2)), (3, (0, v3))] 4 (0, 0)) 5 (0, 0)) v1 v2 v3 0 0 (get_st1 (get_st1 rfl (by decide) (fun q => absurd q.1 (by decide))) (by decide) (fun q => absurd q.1 (by decide))) (get_st1 (get_st1 rfl (by decide) (fun q => absurd q.1 (by decide))) (by decide) (fun q => absurd q.1 (by decide))) (get_st1 (get_st1 rfl (by decide) (fun q => absurd q.1 (by decide))) (by decide) (fun q => absurd q.1 (by decide))) (get_st1 (get_st1 rfl (by decide) (fun q => tg0 q.2)) (by decide) (fun q => absurd q.1 (by decide))) (get_st1 get_st1e (by decide) (fun q => tg0 q.2)) get_st1e hI6 (by omega) (by omega) (by omega) (by omega) (by omega) (by omega) (by omega) (fun rr χ hIχ hFχ hpχ hEχ => hQ rr χ hIχ (fr_tr hG6 hFχ (by decide)) hpχ (e6.trans hEχ))
    · skip
      have e5b := e4.trans (if_neg q5)
      exact hQ (-1 : Int) (hf_up φ 192 0 0) i1 r1 trivial e5b
theorem sf_261_192_v {sc : List Int} {d : Nat} {φ : hf_F} {x : Nat} {Q : Option jm_V → hf_F → Nat → Prop} {v1 v2 v3 : Int}
    (H : hi v1 ∧ (v1 = 0 → hw sc (d + 3) 215 0 [(0, (2, 192)), (1, (0, v2)), (2, (0, v3))] [] φ x (fun r ψ2 y2 => y2 = x ∧ φ = ψ2 ∧ (∃ z2 : Int, r = some (0, z2) ∧ (hi z2 ∧ (¬ z2 = 0 → hi z2 ∧ (z2 ≤ 0 → Q (some (0, 0)) φ x) ∧ (¬ z2 ≤ 0 → Q (some (0, (10 * v1) + z2)) φ x)) ∧ (¬ (¬ z2 = 0) → 0 ≤ (112 + v2) ∧ (112 + v2) < 361 ∧ (hi z2 ∧ (z2 ≤ 0 → Q (some (0, 0)) (hf_up φ 194 ((112 + v2).toNat) (v3 + 1)) x) ∧ (¬ z2 ≤ 0 → Q (some (0, (10 * v1) + z2)) (hf_up φ 194 ((112 + v2).toNat) (v3 + 1)) x))))))) ∧ (v1 = 1 → 0 ≤ (112 + v2) ∧ (112 + v2) < 361 ∧ (hi (φ 194 ((112 + v2).toNat)) ∧ (¬ (φ 194 ((112 + v2).toNat)) = 0 → 0 ≤ (112 + v2) ∧ (112 + v2) < 361 ∧ (Q (some (0, 0)) (hf_up φ 194 ((112 + v2).toNat) 0) x)) ∧ (¬ (¬ (φ 194 ((112 + v2).toNat)) = 0) → 0 ≤ (112 + v2) ∧ (112 + v2) < 361 ∧ (Q (some (0, (10 * v1) + 1)) (hf_up φ 194 ((112 + v2).toNat) 0) x)))) ∧ (v1 = 2 → hw sc (d + 3) 219 0 [(0, (2, 192)), (1, (0, v2))] [] φ x (fun r ψ19 y19 => y19 = x ∧ φ = ψ19 ∧ (∃ z19 : Int, r = some (0, z19) ∧ (hi z19 ∧ (¬ z19 = 0 → hi z19 ∧ (z19 ≤ 0 → Q (some (0, 0)) φ x) ∧ (¬ z19 ≤ 0 → Q (some (0, (10 * v1) + z19)) φ x)) ∧ (¬ (¬ z19 = 0) → hw sc (d + 3) 220 0 [(0, (2, 192)), (1, (0, v2)), (2, (0, v3))] [] φ x (fun r ψ24 y24 => y24 = x ∧ (r = none ∧ (hi z19 ∧ (z19 ≤ 0 → Q (some (0, 0)) ψ24 x) ∧ (¬ z19 ≤ 0 → Q (some (0, (10 * v1) + z19)) ψ24 x))))))))) ∧ (v1 = 3 → hw sc (d + 3) 222 0 [(0, (2, 192))] [] φ x (fun r ψ28 y28 => y28 = x ∧ φ = ψ28 ∧ (∃ z28 : Int, r = some (0, z28) ∧ (hi z28 ∧ (¬ z28 = 0 → hi z28 ∧ (z28 ≤ 0 → Q (some (0, 0)) φ x) ∧ (¬ z28 ≤ 0 → Q (some (0, (10 * v1) + z28)) φ x)) ∧ (¬ (¬ z28 = 0) → hw sc (d + 3) 223 0 [(0, (2, 192))] [] φ x (fun r ψ33 y33 => y33 = x ∧ (r = none ∧ (hi z28 ∧ (z28 ≤ 0 → Q (some (0, 0)) ψ33 x) ∧ (¬ z28 ≤ 0 → Q (some (0, (10 * v1) + z28)) ψ33 x))))))))) ∧ ((v1 < 0 ∨ 4 ≤ v1) → hi 1000 ∧ ((jm_n ((φ 194 99) + v2)) ≤ 1000 → hw sc (d + 3) 225 0 [(0, (2, 192)), (1, (0, v2))] [] φ x (fun r ψ39 y39 => y39 = x ∧ (∃ z39 : Int, r = some (0, z39) ∧ (Q (some (0, 0)) ψ39 x)))) ∧ (¬ (jm_n ((φ 194 99) + v2)) ≤ 1000 → Q (some (0, (10 * v1) + 1)) φ x))) :
    hw sc (d + 4) 261 0 [(0, (2, 192)), (1, (0, v1)), (2, (0, v2)), (3, (0, v3))] [] φ x Q := by
  refine hw_k (c := 0) (b := 0) (e := 1) (by decide +kernel) ?_
  refine hw_st (L' := (jm_st1 [(0, (2, 192)), (1, (0, v1)), (2, (0, v2)), (3, (0, v3))] 4 (0, 0))) (b := 4) (e := 1) (by decide +kernel) rfl ?_
  refine hw_ld (b := 1) (e := 0) (by decide +kernel) (get_st1 rfl (by decide) (fun q => absurd q.1 (by decide))) ?_
  obtain ⟨hz1, H⟩ := H
  refine hr_tsw (T := [36, 64, 96, 117]) (lo := 0) (nn := 4) (b := 135) (e := 12) (by decide +kernel) rfl hz1 ?_ ?_
  · intro q
    have H := H.2.2.2.2 q
    refine hw_ald (b := 0) (e := 0) (by decide +kernel) (get_st1 rfl (by decide) (fun q => absurd q.1 (by decide))) (by decide) ?_
    refine hr_gr (w := 194) (b := 12) (e := 6) 192 rfl (by decide +kernel) ?_
    refine hw_k (c := 99) (b := 1) (e := 2) (by decide +kernel) ?_
    refine hr_al (b := 0) (a0 := 0) (e := 0) (n := 361) (w := φ 194 99) 194 rfl (by decide +kernel) (by decide) (by decide) (by decide) rfl ?_
    refine hw_ld (b := 2) (e := 0) (by decide +kernel) (get_st1 rfl (by decide) (fun q => absurd q.1 (by decide))) ?_
    refine hw_bin (w := (φ 194 99) + v2) (a0 := 0) (b := 0) (e := 0) (by decide +kernel) rfl ?_
    refine hw_k (c := 1000) (b := 2) (e := 3) (by decide +kernel) ?_
    obtain ⟨hz37, ht37, hf37⟩ := H
    refine hw_if2l (a0 := 0) (b := 5) (e := 154) (by decide +kernel) hz37 (fun q => ?_) (fun q => ?_)
    · have H := ht37 q
      refine hw_k (c := 0) (b := 0) (e := 1) (by decide +kernel) ?_
      refine hw_st (L' := (jm_st1 (jm_st1 [(0, (2, 192)), (1, (0, v1)), (2, (0, v2)), (3, (0, v3))] 4 (0, 0)) 4 (0, 0))) (b := 4) (e := 1) (by decide +kernel) rfl ?_
      refine hw_ld (b := 4) (e := 1) (by decide +kernel) get_st1e ?_
      refine hw_if (a0 := 0) (b := 1) (e := 168) (by decide +kernel) (by unfold hi; omega) (fun q => absurd (show ¬ (0 : Int) = 0 from q) (by decide)) (fun _ => ?_)
      refine hw_ald (b := 0) (e := 0) (by decide +kernel) (get_st1 (get_st1 rfl (by decide) (fun q => absurd q.1 (by decide))) (by decide) (fun q => absurd q.1 (by decide))) (by decide) ?_
      refine hw_ld (b := 2) (e := 0) (by decide +kernel) (get_st1 (get_st1 rfl (by decide) (fun q => absurd q.1 (by decide))) (by decide) (fun q => absurd q.1 (by decide))) ?_
      refine hr_call (a0 := 22) (b := 225) (e := 2) (nl := 3) (As := [(0, v2)]) (R := []) 192 rfl (by decide +kernel) rfl rfl (Nat.le_of_ble_eq_true rfl) (Nat.le_of_ble_eq_true rfl) ?_
      refine hw_mono H ?_
      rintro r ψ39 y39 ⟨hyx, z39, hr, H⟩
      subst hyx
      subst hr
      refine ⟨hne0, ?_⟩
      show hw sc (d + 4) 261 167 (jm_st1 (jm_st1 [(0, (2, 192)), (1, (0, v1)), (2, (0, v2)), (3, (0, v3))] 4 (0, 0)) 4 (0, 0)) [(0, z39)] ψ39 y39 Q
      refine hw_pop (a0 := 0) (e := 0) (by decide +kernel) (by decide) ?_
      refine hw_ld (b := 4) (e := 1) (by decide +kernel) get_st1e ?_
      refine hw_if (a0 := 0) (b := 5) (e := 183) (by decide +kernel) (by unfold hi; omega) (fun _ => ?_) (fun q => absurd (show (0 : Int) ≤ 0 by decide) q)
      refine hw_k (c := 0) (b := 0) (e := 1) (by decide +kernel) ?_
      exact hw_ret (a0 := 0) (e := 0) (by decide +kernel) (Or.inl rfl) H
    · have H := hf37 q
      refine hw_k (c := 1) (b := 0) (e := 1) (by decide +kernel) ?_
      refine hw_goto (a0 := 0) (b := 0) (e := 155) (by decide +kernel) ?_
      refine hw_st (L' := (jm_st1 (jm_st1 [(0, (2, 192)), (1, (0, v1)), (2, (0, v2)), (3, (0, v3))] 4 (0, 0)) 4 (0, 1))) (b := 4) (e := 1) (by decide +kernel) rfl ?_
      refine hw_ld (b := 4) (e := 1) (by decide +kernel) get_st1e ?_
      refine hw_if (a0 := 0) (b := 1) (e := 168) (by decide +kernel) (by unfold hi; omega) (fun _ => ?_) (fun q => absurd (show ¬ (1 : Int) = 0 by decide) q)
      refine hw_ld (b := 4) (e := 1) (by decide +kernel) get_st1e ?_
      refine hw_if (a0 := 0) (b := 5) (e := 183) (by decide +kernel) (by unfold hi; omega) (fun q => absurd (show (1 : Int) ≤ 0 from q) (by decide)) (fun _ => ?_)
      refine hw_k (c := 10) (b := 1) (e := 2) (by decide +kernel) ?_
      refine hw_ld (b := 1) (e := 0) (by decide +kernel) (get_st1 (get_st1 rfl (by decide) (fun q => absurd q.1 (by decide))) (by decide) (fun q => absurd q.1 (by decide))) ?_
      refine hw_bin (w := 10 * v1) (a0 := 0) (b := 2) (e := 0) (by decide +kernel) rfl ?_
      refine hw_ld (b := 4) (e := 1) (by decide +kernel) get_st1e ?_
      refine hw_bin (w := (10 * v1) + 1) (a0 := 0) (b := 0) (e := 0) (by decide +kernel) rfl ?_
      refine hw_goto (a0 := 0) (b := 0) (e := 184) (by decide +kernel) ?_
      exact hw_ret (a0 := 0) (e := 0) (by decide +kernel) (Or.inl rfl) H
  · intro kq tq htq hzq
    match kq, htq, hzq with
    | 0, htq, hzq =>
      cases htq
      have H := H.1 (by omega)
      refine hw_ald (b := 0) (e := 0) (by decide +kernel) (get_st1 rfl (by decide) (fun q => absurd q.1 (by decide))) (by decide) ?_
      refine hw_ld (b := 2) (e := 0) (by decide +kernel) (get_st1 rfl (by decide) (fun q => absurd q.1 (by decide))) ?_
      refine hw_ld (b := 3) (e := 0) (by decide +kernel) (get_st1 rfl (by decide) (fun q => tg0 q.2)) ?_
      refine hr_call (a0 := 22) (b := 215) (e := 3) (nl := 3) (As := [(0, v2), (0, v3)]) (R := []) 192 rfl (by decide +kernel) rfl rfl (Nat.le_of_ble_eq_true rfl) (Nat.le_of_ble_eq_true rfl) ?_
      refine hw_mono H ?_
      rintro r ψ2 y2 ⟨hyx, hψx, z2, hr, H⟩
      subst hyx
      subst hψx
      subst hr
      refine ⟨hne0, ?_⟩
      show hw sc (d + 4) 261 42 (jm_st1 [(0, (2, 192)), (1, (0, v1)), (2, (0, v2)), (3, (0, v3))] 4 (0, 0)) [(0, z2)] φ y2 Q
      refine hw_st (L' := (jm_st1 (jm_st1 [(0, (2, 192)), (1, (0, v1)), (2, (0, v2)), (3, (0, v3))] 4 (0, 0)) 4 (0, z2))) (b := 4) (e := 1) (by decide +kernel) rfl ?_
      refine hw_ld (b := 4) (e := 1) (by decide +kernel) get_st1e ?_
      obtain ⟨hz3, ht3, hf3⟩ := H
      refine hw_if (a0 := 0) (b := 1) (e := 168) (by decide +kernel) hz3 (fun q => ?_) (fun q => ?_)
      · have H := ht3 q
        refine hw_ld (b := 4) (e := 1) (by decide +kernel) get_st1e ?_
        obtain ⟨hz4, ht4, hf4⟩ := H
        refine hw_if (a0 := 0) (b := 5) (e := 183) (by decide +kernel) hz4 (fun q => ?_) (fun q => ?_)
        · have H := ht4 q
          refine hw_k (c := 0) (b := 0) (e := 1) (by decide +kernel) ?_
          exact hw_ret (a0 := 0) (e := 0) (by decide +kernel) (Or.inl rfl) H
        · have H := hf4 q
          refine hw_k (c := 10) (b := 1) (e := 2) (by decide +kernel) ?_
          refine hw_ld (b := 1) (e := 0) (by decide +kernel) (get_st1 (get_st1 rfl (by decide) (fun q => absurd q.1 (by decide))) (by decide) (fun q => absurd q.1 (by decide))) ?_
          refine hw_bin (w := 10 * v1) (a0 := 0) (b := 2) (e := 0) (by decide +kernel) rfl ?_
          refine hw_ld (b := 4) (e := 1) (by decide +kernel) get_st1e ?_
          refine hw_bin (w := (10 * v1) + z2) (a0 := 0) (b := 0) (e := 0) (by decide +kernel) rfl ?_
          refine hw_goto (a0 := 0) (b := 0) (e := 184) (by decide +kernel) ?_
          exact hw_ret (a0 := 0) (e := 0) (by decide +kernel) (Or.inl rfl) H
      · have H := hf3 q
        refine hw_ald (b := 0) (e := 0) (by decide +kernel) (get_st1 (get_st1 rfl (by decide) (fun q => absurd q.1 (by decide))) (by decide) (fun q => absurd q.1 (by decide))) (by decide) ?_
        refine hr_gr (w := 194) (b := 12) (e := 6) 192 rfl (by decide +kernel) ?_
        refine hw_k (c := 112) (b := 1) (e := 2) (by decide +kernel) ?_
        refine hw_ld (b := 2) (e := 0) (by decide +kernel) (get_st1 (get_st1 rfl (by decide) (fun q => absurd q.1 (by decide))) (by decide) (fun q => absurd q.1 (by decide))) ?_
        refine hw_bin (w := 112 + v2) (a0 := 0) (b := 0) (e := 0) (by decide +kernel) rfl ?_
        refine hw_ld (b := 3) (e := 0) (by decide +kernel) (get_st1 (get_st1 rfl (by decide) (fun q => tg0 q.2)) (by decide) (fun q => tg0 q.2)) ?_
        refine hw_k (c := 1) (b := 0) (e := 1) (by decide +kernel) ?_
        refine hw_bin (w := v3 + 1) (a0 := 0) (b := 0) (e := 0) (by decide +kernel) rfl ?_
        obtain ⟨hl7, hu7, H⟩ := H
        refine hr_as (a0 := 0) (e := 4) (n := 361) 194 rfl (by decide +kernel) hl7 hu7 ?_
        refine hw_goto (a0 := 0) (b := 0) (e := 168) (by decide +kernel) ?_
        refine hw_ld (b := 4) (e := 1) (by decide +kernel) get_st1e ?_
        obtain ⟨hz8, ht8, hf8⟩ := H
        refine hw_if (a0 := 0) (b := 5) (e := 183) (by decide +kernel) hz8 (fun q => ?_) (fun q => ?_)
        · have H := ht8 q
          refine hw_k (c := 0) (b := 0) (e := 1) (by decide +kernel) ?_
          exact hw_ret (a0 := 0) (e := 0) (by decide +kernel) (Or.inl rfl) H
        · have H := hf8 q
          refine hw_k (c := 10) (b := 1) (e := 2) (by decide +kernel) ?_
          refine hw_ld (b := 1) (e := 0) (by decide +kernel) (get_st1 (get_st1 rfl (by decide) (fun q => absurd q.1 (by decide))) (by decide) (fun q => absurd q.1 (by decide))) ?_
          refine hw_bin (w := 10 * v1) (a0 := 0) (b := 2) (e := 0) (by decide +kernel) rfl ?_
          refine hw_ld (b := 4) (e := 1) (by decide +kernel) get_st1e ?_
          refine hw_bin (w := (10 * v1) + z2) (a0 := 0) (b := 0) (e := 0) (by decide +kernel) rfl ?_
          refine hw_goto (a0 := 0) (b := 0) (e := 184) (by decide +kernel) ?_
          exact hw_ret (a0 := 0) (e := 0) (by decide +kernel) (Or.inl rfl) H
    | 1, htq, hzq =>
      cases htq
      have H := H.2.1 (by omega)
      refine hw_ald (b := 0) (e := 0) (by decide +kernel) (get_st1 rfl (by decide) (fun q => absurd q.1 (by decide))) (by decide) ?_
      refine hr_gr (w := 194) (b := 12) (e := 6) 192 rfl (by decide +kernel) ?_
      refine hw_k (c := 112) (b := 1) (e := 2) (by decide +kernel) ?_
      refine hw_ld (b := 2) (e := 0) (by decide +kernel) (get_st1 rfl (by decide) (fun q => absurd q.1 (by decide))) ?_
      refine hw_bin (w := 112 + v2) (a0 := 0) (b := 0) (e := 0) (by decide +kernel) rfl ?_
      obtain ⟨hl11, hu11, H⟩ := H
      refine hr_al (b := 0) (a0 := 0) (e := 0) (n := 361) (w := φ 194 ((112 + v2).toNat)) 194 rfl (by decide +kernel) (by decide) hl11 hu11 rfl ?_
      obtain ⟨hz12, ht12, hf12⟩ := H
      refine hw_if (a0 := 0) (b := 1) (e := 80) (by decide +kernel) hz12 (fun q => ?_) (fun q => ?_)
      · have H := ht12 q
        refine hw_k (c := 0) (b := 0) (e := 1) (by decide +kernel) ?_
        refine hw_st (L' := (jm_st1 (jm_st1 [(0, (2, 192)), (1, (0, v1)), (2, (0, v2)), (3, (0, v3))] 4 (0, 0)) 4 (0, 0))) (b := 4) (e := 1) (by decide +kernel) rfl ?_
        refine hw_ald (b := 0) (e := 0) (by decide +kernel) (get_st1 (get_st1 rfl (by decide) (fun q => absurd q.1 (by decide))) (by decide) (fun q => absurd q.1 (by decide))) (by decide) ?_
        refine hr_gr (w := 194) (b := 12) (e := 6) 192 rfl (by decide +kernel) ?_
        refine hw_k (c := 112) (b := 1) (e := 2) (by decide +kernel) ?_
        refine hw_ld (b := 2) (e := 0) (by decide +kernel) (get_st1 (get_st1 rfl (by decide) (fun q => absurd q.1 (by decide))) (by decide) (fun q => absurd q.1 (by decide))) ?_
        refine hw_bin (w := 112 + v2) (a0 := 0) (b := 0) (e := 0) (by decide +kernel) rfl ?_
        refine hw_k (c := 0) (b := 0) (e := 1) (by decide +kernel) ?_
        obtain ⟨hl13, hu13, H⟩ := H
        refine hr_as (a0 := 0) (e := 4) (n := 361) 194 rfl (by decide +kernel) hl13 hu13 ?_
        refine hw_goto (a0 := 0) (b := 0) (e := 168) (by decide +kernel) ?_
        refine hw_ld (b := 4) (e := 1) (by decide +kernel) get_st1e ?_
        refine hw_if (a0 := 0) (b := 5) (e := 183) (by decide +kernel) (by unfold hi; omega) (fun _ => ?_) (fun q => absurd (show (0 : Int) ≤ 0 by decide) q)
        refine hw_k (c := 0) (b := 0) (e := 1) (by decide +kernel) ?_
        exact hw_ret (a0 := 0) (e := 0) (by decide +kernel) (Or.inl rfl) H
      · have H := hf12 q
        refine hw_k (c := 1) (b := 0) (e := 1) (by decide +kernel) ?_
        refine hw_goto (a0 := 0) (b := 0) (e := 81) (by decide +kernel) ?_
        refine hw_st (L' := (jm_st1 (jm_st1 [(0, (2, 192)), (1, (0, v1)), (2, (0, v2)), (3, (0, v3))] 4 (0, 0)) 4 (0, 1))) (b := 4) (e := 1) (by decide +kernel) rfl ?_
        refine hw_ald (b := 0) (e := 0) (by decide +kernel) (get_st1 (get_st1 rfl (by decide) (fun q => absurd q.1 (by decide))) (by decide) (fun q => absurd q.1 (by decide))) (by decide) ?_
        refine hr_gr (w := 194) (b := 12) (e := 6) 192 rfl (by decide +kernel) ?_
        refine hw_k (c := 112) (b := 1) (e := 2) (by decide +kernel) ?_
        refine hw_ld (b := 2) (e := 0) (by decide +kernel) (get_st1 (get_st1 rfl (by decide) (fun q => absurd q.1 (by decide))) (by decide) (fun q => absurd q.1 (by decide))) ?_
        refine hw_bin (w := 112 + v2) (a0 := 0) (b := 0) (e := 0) (by decide +kernel) rfl ?_
        refine hw_k (c := 0) (b := 0) (e := 1) (by decide +kernel) ?_
        obtain ⟨hl16, hu16, H⟩ := H
        refine hr_as (a0 := 0) (e := 4) (n := 361) 194 rfl (by decide +kernel) hl16 hu16 ?_
        refine hw_goto (a0 := 0) (b := 0) (e := 168) (by decide +kernel) ?_
        refine hw_ld (b := 4) (e := 1) (by decide +kernel) get_st1e ?_
        refine hw_if (a0 := 0) (b := 5) (e := 183) (by decide +kernel) (by unfold hi; omega) (fun q => absurd (show (1 : Int) ≤ 0 from q) (by decide)) (fun _ => ?_)
        refine hw_k (c := 10) (b := 1) (e := 2) (by decide +kernel) ?_
        refine hw_ld (b := 1) (e := 0) (by decide +kernel) (get_st1 (get_st1 rfl (by decide) (fun q => absurd q.1 (by decide))) (by decide) (fun q => absurd q.1 (by decide))) ?_
        refine hw_bin (w := 10 * v1) (a0 := 0) (b := 2) (e := 0) (by decide +kernel) rfl ?_
        refine hw_ld (b := 4) (e := 1) (by decide +kernel) get_st1e ?_
        refine hw_bin (w := (10 * v1) + 1) (a0 := 0) (b := 0) (e := 0) (by decide +kernel) rfl ?_
        refine hw_goto (a0 := 0) (b := 0) (e := 184) (by decide +kernel) ?_
        exact hw_ret (a0 := 0) (e := 0) (by decide +kernel) (Or.inl rfl) H
    | 2, htq, hzq =>
      cases htq
      have H := H.2.2.1 (by omega)
      refine hw_ald (b := 0) (e := 0) (by decide +kernel) (get_st1 rfl (by decide) (fun q => absurd q.1 (by decide))) (by decide) ?_
      refine hw_ld (b := 2) (e := 0) (by decide +kernel) (get_st1 rfl (by decide) (fun q => absurd q.1 (by decide))) ?_
      refine hr_call (a0 := 22) (b := 219) (e := 2) (nl := 2) (As := [(0, v2)]) (R := []) 192 rfl (by decide +kernel) rfl rfl (Nat.le_of_ble_eq_true rfl) (Nat.le_of_ble_eq_true rfl) ?_
      refine hw_mono H ?_
      rintro r ψ19 y19 ⟨hyx, hψx, z19, hr, H⟩
      subst hyx
      subst hψx
      subst hr
      refine ⟨hne0, ?_⟩
      show hw sc (d + 4) 261 101 (jm_st1 [(0, (2, 192)), (1, (0, v1)), (2, (0, v2)), (3, (0, v3))] 4 (0, 0)) [(0, z19)] φ y19 Q
      refine hw_st (L' := (jm_st1 (jm_st1 [(0, (2, 192)), (1, (0, v1)), (2, (0, v2)), (3, (0, v3))] 4 (0, 0)) 4 (0, z19))) (b := 4) (e := 1) (by decide +kernel) rfl ?_
      refine hw_ld (b := 4) (e := 1) (by decide +kernel) get_st1e ?_
      obtain ⟨hz20, ht20, hf20⟩ := H
      refine hw_if (a0 := 0) (b := 1) (e := 168) (by decide +kernel) hz20 (fun q => ?_) (fun q => ?_)
      · have H := ht20 q
        refine hw_ld (b := 4) (e := 1) (by decide +kernel) get_st1e ?_
        obtain ⟨hz21, ht21, hf21⟩ := H
        refine hw_if (a0 := 0) (b := 5) (e := 183) (by decide +kernel) hz21 (fun q => ?_) (fun q => ?_)
        · have H := ht21 q
          refine hw_k (c := 0) (b := 0) (e := 1) (by decide +kernel) ?_
          exact hw_ret (a0 := 0) (e := 0) (by decide +kernel) (Or.inl rfl) H
        · have H := hf21 q
          refine hw_k (c := 10) (b := 1) (e := 2) (by decide +kernel) ?_
          refine hw_ld (b := 1) (e := 0) (by decide +kernel) (get_st1 (get_st1 rfl (by decide) (fun q => absurd q.1 (by decide))) (by decide) (fun q => absurd q.1 (by decide))) ?_
          refine hw_bin (w := 10 * v1) (a0 := 0) (b := 2) (e := 0) (by decide +kernel) rfl ?_
          refine hw_ld (b := 4) (e := 1) (by decide +kernel) get_st1e ?_
          refine hw_bin (w := (10 * v1) + z19) (a0 := 0) (b := 0) (e := 0) (by decide +kernel) rfl ?_
          refine hw_goto (a0 := 0) (b := 0) (e := 184) (by decide +kernel) ?_
          exact hw_ret (a0 := 0) (e := 0) (by decide +kernel) (Or.inl rfl) H
      · have H := hf20 q
        refine hw_ald (b := 0) (e := 0) (by decide +kernel) (get_st1 (get_st1 rfl (by decide) (fun q => absurd q.1 (by decide))) (by decide) (fun q => absurd q.1 (by decide))) (by decide) ?_
        refine hw_ld (b := 2) (e := 0) (by decide +kernel) (get_st1 (get_st1 rfl (by decide) (fun q => absurd q.1 (by decide))) (by decide) (fun q => absurd q.1 (by decide))) ?_
        refine hw_ld (b := 3) (e := 0) (by decide +kernel) (get_st1 (get_st1 rfl (by decide) (fun q => tg0 q.2)) (by decide) (fun q => tg0 q.2)) ?_
        refine hr_call (a0 := 22) (b := 220) (e := 3) (nl := 3) (As := [(0, v2), (0, v3)]) (R := []) 192 rfl (by decide +kernel) rfl rfl (Nat.le_of_ble_eq_true rfl) (Nat.le_of_ble_eq_true rfl) ?_
        refine hw_mono H ?_
        rintro r ψ24 y24 ⟨hyx, hr, H⟩
        subst hyx
        subst hr
        refine ⟨hnen, ?_⟩
        show hw sc (d + 4) 261 114 (jm_st1 (jm_st1 [(0, (2, 192)), (1, (0, v1)), (2, (0, v2)), (3, (0, v3))] 4 (0, 0)) 4 (0, z19)) [] ψ24 y24 Q
        refine hw_goto (a0 := 0) (b := 0) (e := 168) (by decide +kernel) ?_
        refine hw_ld (b := 4) (e := 1) (by decide +kernel) get_st1e ?_
        obtain ⟨hz25, ht25, hf25⟩ := H
        refine hw_if (a0 := 0) (b := 5) (e := 183) (by decide +kernel) hz25 (fun q => ?_) (fun q => ?_)
        · have H := ht25 q
          refine hw_k (c := 0) (b := 0) (e := 1) (by decide +kernel) ?_
          exact hw_ret (a0 := 0) (e := 0) (by decide +kernel) (Or.inl rfl) H
        · have H := hf25 q
          refine hw_k (c := 10) (b := 1) (e := 2) (by decide +kernel) ?_
          refine hw_ld (b := 1) (e := 0) (by decide +kernel) (get_st1 (get_st1 rfl (by decide) (fun q => absurd q.1 (by decide))) (by decide) (fun q => absurd q.1 (by decide))) ?_
          refine hw_bin (w := 10 * v1) (a0 := 0) (b := 2) (e := 0) (by decide +kernel) rfl ?_
          refine hw_ld (b := 4) (e := 1) (by decide +kernel) get_st1e ?_
          refine hw_bin (w := (10 * v1) + z19) (a0 := 0) (b := 0) (e := 0) (by decide +kernel) rfl ?_
          refine hw_goto (a0 := 0) (b := 0) (e := 184) (by decide +kernel) ?_
          exact hw_ret (a0 := 0) (e := 0) (by decide +kernel) (Or.inl rfl) H
    | 3, htq, hzq =>
      cases htq
      have H := H.2.2.2.1 (by omega)
      refine hw_ald (b := 0) (e := 0) (by decide +kernel) (get_st1 rfl (by decide) (fun q => absurd q.1 (by decide))) (by decide) ?_
      refine hr_call (a0 := 22) (b := 222) (e := 1) (nl := 1) (As := []) (R := []) 192 rfl (by decide +kernel) rfl rfl (Nat.le_of_ble_eq_true rfl) (Nat.le_of_ble_eq_true rfl) ?_
      refine hw_mono H ?_
      rintro r ψ28 y28 ⟨hyx, hψx, z28, hr, H⟩
      subst hyx
      subst hψx
      subst hr
      refine ⟨hne0, ?_⟩
      show hw sc (d + 4) 261 121 (jm_st1 [(0, (2, 192)), (1, (0, v1)), (2, (0, v2)), (3, (0, v3))] 4 (0, 0)) [(0, z28)] φ y28 Q
      refine hw_st (L' := (jm_st1 (jm_st1 [(0, (2, 192)), (1, (0, v1)), (2, (0, v2)), (3, (0, v3))] 4 (0, 0)) 4 (0, z28))) (b := 4) (e := 1) (by decide +kernel) rfl ?_
      refine hw_ld (b := 4) (e := 1) (by decide +kernel) get_st1e ?_
      obtain ⟨hz29, ht29, hf29⟩ := H
      refine hw_if (a0 := 0) (b := 1) (e := 168) (by decide +kernel) hz29 (fun q => ?_) (fun q => ?_)
      · have H := ht29 q
        refine hw_ld (b := 4) (e := 1) (by decide +kernel) get_st1e ?_
        obtain ⟨hz30, ht30, hf30⟩ := H
        refine hw_if (a0 := 0) (b := 5) (e := 183) (by decide +kernel) hz30 (fun q => ?_) (fun q => ?_)
        · have H := ht30 q
          refine hw_k (c := 0) (b := 0) (e := 1) (by decide +kernel) ?_
          exact hw_ret (a0 := 0) (e := 0) (by decide +kernel) (Or.inl rfl) H
        · have H := hf30 q
          refine hw_k (c := 10) (b := 1) (e := 2) (by decide +kernel) ?_
          refine hw_ld (b := 1) (e := 0) (by decide +kernel) (get_st1 (get_st1 rfl (by decide) (fun q => absurd q.1 (by decide))) (by decide) (fun q => absurd q.1 (by decide))) ?_
          refine hw_bin (w := 10 * v1) (a0 := 0) (b := 2) (e := 0) (by decide +kernel) rfl ?_
          refine hw_ld (b := 4) (e := 1) (by decide +kernel) get_st1e ?_
          refine hw_bin (w := (10 * v1) + z28) (a0 := 0) (b := 0) (e := 0) (by decide +kernel) rfl ?_
          refine hw_goto (a0 := 0) (b := 0) (e := 184) (by decide +kernel) ?_
          exact hw_ret (a0 := 0) (e := 0) (by decide +kernel) (Or.inl rfl) H
      · have H := hf29 q
        refine hw_ald (b := 0) (e := 0) (by decide +kernel) (get_st1 (get_st1 rfl (by decide) (fun q => absurd q.1 (by decide))) (by decide) (fun q => absurd q.1 (by decide))) (by decide) ?_
        refine hr_call (a0 := 22) (b := 223) (e := 1) (nl := 2) (As := []) (R := []) 192 rfl (by decide +kernel) rfl rfl (Nat.le_of_ble_eq_true rfl) (Nat.le_of_ble_eq_true rfl) ?_
        refine hw_mono H ?_
        rintro r ψ33 y33 ⟨hyx, hr, H⟩
        subst hyx
        subst hr
        refine ⟨hnen, ?_⟩
        show hw sc (d + 4) 261 132 (jm_st1 (jm_st1 [(0, (2, 192)), (1, (0, v1)), (2, (0, v2)), (3, (0, v3))] 4 (0, 0)) 4 (0, z28)) [] ψ33 y33 Q
        refine hw_goto (a0 := 0) (b := 0) (e := 168) (by decide +kernel) ?_
        refine hw_ld (b := 4) (e := 1) (by decide +kernel) get_st1e ?_
        obtain ⟨hz34, ht34, hf34⟩ := H
        refine hw_if (a0 := 0) (b := 5) (e := 183) (by decide +kernel) hz34 (fun q => ?_) (fun q => ?_)
        · have H := ht34 q
          refine hw_k (c := 0) (b := 0) (e := 1) (by decide +kernel) ?_
          exact hw_ret (a0 := 0) (e := 0) (by decide +kernel) (Or.inl rfl) H
        · have H := hf34 q
          refine hw_k (c := 10) (b := 1) (e := 2) (by decide +kernel) ?_
          refine hw_ld (b := 1) (e := 0) (by decide +kernel) (get_st1 (get_st1 rfl (by decide) (fun q => absurd q.1 (by decide))) (by decide) (fun q => absurd q.1 (by decide))) ?_
          refine hw_bin (w := 10 * v1) (a0 := 0) (b := 2) (e := 0) (by decide +kernel) rfl ?_
          refine hw_ld (b := 4) (e := 1) (by decide +kernel) get_st1e ?_
          refine hw_bin (w := (10 * v1) + z28) (a0 := 0) (b := 0) (e := 0) (by decide +kernel) rfl ?_
          refine hw_goto (a0 := 0) (b := 0) (e := 184) (by decide +kernel) ?_
          exact hw_ret (a0 := 0) (e := 0) (by decide +kernel) (Or.inl rfl) H
    | kq + 4, htq, _ => cases htq
theorem sf_261_192 {sc : List Int} {d : Nat} {φ : hf_F} {x : Nat} {Q : Option jm_V → hf_F → Nat → Prop} {v1 v2 v3 : Int} (hI : Inv φ) (h1a : (-1 : Int) ≤ v1) (h1b : v1 ≤ 8214) (h2a : (-1 : Int) ≤ v2) (h2b : v2 ≤ 8214) (h3a : (-1 : Int) ≤ v3) (h3b : v3 ≤ 8214) (hp0 : (v1 = 0 → 0 ≤ v2 ∧ v2 ≤ 5 ∧ 0 ≤ v3 ∧ v3 ≤ 7)) (hp1 : (v1 = 1 → 0 ≤ v2 ∧ v2 ≤ 5)) (hp2 : (v1 = 2 → 0 ≤ v2 ∧ v2 ≤ 5 ∧ 0 ≤ v3 ∧ v3 ≤ 7)) (hQ : ∀ (r : Int) (ψ : hf_F), Inv ψ → Fr [194] φ ψ → True → F_RideLawsModel_does_192 φ v1 v2 v3 = (r, ψ) → Q (some (0, r)) ψ x) : hw sc (d + 4) 261 0 [(0, (2, 192)), (1, (0, v1)), (2, (0, v2)), (3, (0, v3))] [] φ x Q := by
  apply sf_261_192_v
  have e0 : F_RideLawsModel_does_192 φ v1 v2 v3 = _ := rfl
  refine ⟨by unfold hi; omega, fun q1 => ?_, fun q1 => ?_, fun q1 => ?_, fun q1 => ?_, fun q1 => ?_⟩
  · skip
    have e1_0 := (e0).trans (if_pos q1)
    refine sf_215_192 (φ := φ) hI (by omega) (by omega) (by omega) (by omega) (fun z2 hp2 hE2 => ⟨rfl, rfl, z2, rfl, ?_⟩)
    have e2 := e1_0.trans (bnp_e hE2)
    refine ⟨by unfold hi; omega, fun q3 => ?_, fun q3 => ?_⟩
    · skip
      have e3a := e2.trans (if_pos q3)
      refine ⟨by unfold hi; omega, fun q4 => ?_, fun q4 => ?_⟩
      · skip
        have e4a := e3a.trans (if_pos q4)
        exact hQ 0 φ hI (fr_rf) trivial e4a
      · skip
        have e4b := e3a.trans (if_neg q4)
        exact hQ ((10 * v1) + z2) φ hI (fr_rf) trivial e4b
    · skip
      have e3b := e2.trans (if_neg q3)
      refine ⟨by omega, by omega, ?_⟩
      have i1 : Inv (hf_up φ 194 ((112 + v2).toNat) (v3 + 1)) := iv_upI (s := 112) (t := 118) (lo := 0) (u := 8) (z := 112 + v2) hI (by decide +kernel) (by omega) (by omega) (by omega) (by omega)
      have r1 : Fr [194] φ (hf_up φ 194 ((112 + v2).toNat) (v3 + 1)) := fr_upa (fr_rf) (by decide)
      refine ⟨by unfold hi; omega, fun q8 => ?_, fun q8 => ?_⟩
      · skip
        have e8a := e3b.trans (if_pos q8)
        exact hQ 0 (hf_up φ 194 ((112 + v2).toNat) (v3 + 1)) i1 r1 trivial e8a
      · skip
        have e8b := e3b.trans (if_neg q8)
        exact hQ ((10 * v1) + z2) (hf_up φ 194 ((112 + v2).toNat) (v3 + 1)) i1 r1 trivial e8b
  · skip
    have e1_1 := ((e0).trans (if_neg (by omega))).trans (if_pos q1)
    refine ⟨by omega, by omega, ?_⟩
    have f2 := iv_ar (a := 194) (s := 112) (t := 118) (lo := 0) (u := 8) (z := 112 + v2) hI (by decide +kernel) (by omega) (by omega)
    refine ⟨by unfold hi; omega, fun q12 => ?_, fun q12 => ?_⟩
    · skip
      have e12a := e1_1.trans (if_pos q12)
      refine ⟨by omega, by omega, ?_⟩
      have i3 : Inv (hf_up φ 194 ((112 + v2).toNat) 0) := iv_upI (s := 112) (t := 118) (lo := 0) (u := 8) (z := 112 + v2) hI (by decide +kernel) (by omega) (by omega) (by omega) (by omega)
      have r3 : Fr [194] φ (hf_up φ 194 ((112 + v2).toNat) 0) := fr_upa (fr_rf) (by decide)
      exact hQ 0 (hf_up φ 194 ((112 + v2).toNat) 0) i3 r3 trivial e12a
    · skip
      have e12b := e1_1.trans (if_neg q12)
      refine ⟨by omega, by omega, ?_⟩
      have i4 : Inv (hf_up φ 194 ((112 + v2).toNat) 0) := iv_upI (s := 112) (t := 118) (lo := 0) (u := 8) (z := 112 + v2) hI (by decide +kernel) (by omega) (by omega) (by omega) (by omega)
      have r4 : Fr [194] φ (hf_up φ 194 ((112 + v2).toNat) 0) := fr_upa (fr_rf) (by decide)
      exact hQ ((10 * v1) + 1) (hf_up φ 194 ((112 + v2).toNat) 0) i4 r4 trivial e12b
  · skip
    have e1_2 := (((e0).trans (if_neg (by omega))).trans (if_neg (by omega))).trans (if_pos q1)
    refine sf_219_192 (φ := φ) hI (by omega) (by omega) (fun z19 hp19 hE19 => ⟨rfl, rfl, z19, rfl, ?_⟩)
    have e19 := e1_2.trans (bnp_e hE19)
    have f5 := iv_ar (a := 194) (s := 118) (t := 124) (lo := 0) (u := 6) (z := 118 + v2) hI (by decide +kernel) (by omega) (by omega)
    refine ⟨by unfold hi; omega, fun q20 => ?_, fun q20 => ?_⟩
    · skip
      have e20a := e19.trans (if_pos q20)
      refine ⟨by unfold hi; omega, fun q21 => ?_, fun q21 => ?_⟩
      · skip
        have e21a := e20a.trans (if_pos q21)
        exact hQ 0 φ hI (fr_rf) trivial e21a
      · skip
        have e21b := e20a.trans (if_neg q21)
        exact hQ ((10 * v1) + z19) φ hI (fr_rf) trivial e21b
    · skip
      have e20b := e19.trans (if_neg q20)
      refine sf_220_192 (φ := φ) hI (by omega) (by omega) (by omega) (by omega) (by omega) (fun ψ24 hI24 hF24 hE24 => ⟨rfl, rfl, ?_⟩)
      have hG24 : Fr [194] φ ψ24 := fr_tr (fr_rf) hF24 (by decide)
      have e24 := e20b.trans (bnv_e hE24)
      refine ⟨by unfold hi; omega, fun q25 => ?_, fun q25 => ?_⟩
      · skip
        have e25a := e24.trans (if_pos q25)
        exact hQ 0 ψ24 hI24 hG24 trivial e25a
      · skip
        have e25b := e24.trans (if_neg q25)
        exact hQ ((10 * v1) + z19) ψ24 hI24 hG24 trivial e25b
  · skip
    have e1_3 := ((((e0).trans (if_neg (by omega))).trans (if_neg (by omega))).trans (if_neg (by omega))).trans (if_pos q1)
    refine sf_222_192 (φ := φ) hI  (fun z28 hp28 hE28 => ⟨rfl, rfl, z28, rfl, ?_⟩)
    have e28 := e1_3.trans (bnp_e hE28)
    refine ⟨by unfold hi; omega, fun q29 => ?_, fun q29 => ?_⟩
    · skip
      have e29a := e28.trans (if_pos q29)
      refine ⟨by unfold hi; omega, fun q30 => ?_, fun q30 => ?_⟩
      · skip
        have e30a := e29a.trans (if_pos q30)
        exact hQ 0 φ hI (fr_rf) trivial e30a
      · skip
        have e30b := e29a.trans (if_neg q30)
        exact hQ ((10 * v1) + z28) φ hI (fr_rf) trivial e30b
    · skip
      have e29b := e28.trans (if_neg q29)
      refine sf_223_192 (φ := φ) hI  (fun ψ33 hI33 hF33 hE33 => ⟨rfl, rfl, ?_⟩)
      have hG33 : Fr [194] φ ψ33 := fr_tr (fr_rf) hF33 (by decide)
      have e33 := e29b.trans (bnv_e hE33)
      refine ⟨by unfold hi; omega, fun q34 => ?_, fun q34 => ?_⟩
      · skip
        have e34a := e33.trans (if_pos q34)
        exact hQ 0 ψ33 hI33 hG33 trivial e34a
      · skip
        have e34b := e33.trans (if_neg q34)
        exact hQ ((10 * v1) + z28) ψ33 hI33 hG33 trivial e34b
  · skip
    have e1_4 := ((((e0).trans (if_neg (by omega))).trans (if_neg (by omega))).trans (if_neg (by omega))).trans (if_neg (by omega))
    have f6 := hr_n ((φ 194 99) + v2)
    refine ⟨by unfold hi; omega, fun q37 => ?_, fun q37 => ?_⟩
    · skip
      have e37a := e1_4.trans (if_pos q37)
      refine sf_225_192 (φ := φ) hI (by omega) (by omega) (fun z39 ψ39 hI39 hF39 hp39 hE39 => ⟨rfl, z39, rfl, ?_⟩)
      have hG39 : Fr [194] φ ψ39 := fr_tr (fr_rf) hF39 (by decide)
      have e39 := e37a.trans (bnd_e hE39)
      exact hQ 0 ψ39 hI39 hG39 trivial e39
    · skip
      have e37b := e1_4.trans (if_neg q37)
      exact hQ ((10 * v1) + 1) φ hI (fr_rf) trivial e37b
theorem sf_42_5_k1_2_v3 {sc : List Int} {d : Nat} {φ : hf_F} {x : Nat} {Q : Option jm_V → hf_F → Nat → Prop} {L : jm_L} {l2 l4 : Int} (g0 : jm_get L 0 = some (2, 5)) (g1 : jm_get L 1 = some (0, 2)) (g2 : jm_get L 2 = some (1, l2)) (g4 : jm_get L 4 = some (0, l4))
    (H : hi l4 ∧ hi (φ 6 2) ∧ ((φ 6 2) ≤ l4 → Q (some (0, (-1 : Int))) φ x) ∧ (¬ (φ 6 2) ≤ l4 → 0 ≤ (16 + l4) ∧ (16 + l4) < 40 ∧ (hi (jm_cmp (φ 7 ((16 + l4).toNat)) l2) ∧ (¬ (jm_cmp (φ 7 ((16 + l4).toNat)) l2) = 0 → hw sc d 42 3 (jm_st1 L 4 (0, l4 + 1)) [] φ x Q) ∧ (¬ (¬ (jm_cmp (φ 7 ((16 + l4).toNat)) l2) = 0) → Q (some (0, l4)) φ x)))) :
    hw sc d 42 3 L [] φ x Q := by
  refine hw_ld (b := 4) (e := 1) (by decide +kernel) g4 ?_
  refine hw_ald (b := 0) (e := 0) (by decide +kernel) g0 (by decide) ?_
  refine hr_gr (w := 6) (b := 3) (e := 0) 5 rfl (by decide +kernel) ?_
  refine hw_ld (b := 1) (e := 0) (by decide +kernel) g1 ?_
  refine hr_al (b := 0) (a0 := 0) (e := 0) (n := 5) (w := φ 6 2) 6 rfl (by decide +kernel) (by decide) (by decide) (by decide) rfl ?_
  obtain ⟨hz1, hy1, ht1, hf1⟩ := H
  refine hw_if2 (a0 := 0) (b := 3) (e := 40) (by decide +kernel) hz1 hy1 (fun q => ?_) (fun q => ?_)
  · have H := ht1 q
    refine hw_k (c := (-1 : Int)) (b := 0) (e := 1) (by decide +kernel) ?_
    exact hw_ret (a0 := 0) (e := 0) (by decide +kernel) (Or.inl rfl) H
  · have H := hf1 q
    refine hw_ald (b := 0) (e := 0) (by decide +kernel) g0 (by decide) ?_
    refine hr_gr (w := 7) (b := 3) (e := 1) 5 rfl (by decide +kernel) ?_
    refine hw_ld (b := 1) (e := 0) (by decide +kernel) g1 ?_
    refine hw_k (c := 8) (b := 1) (e := 2) (by decide +kernel) ?_
    refine hw_bin (w := 16) (a0 := 0) (b := 2) (e := 0) (by decide +kernel) rfl ?_
    refine hw_ld (b := 4) (e := 1) (by decide +kernel) g4 ?_
    refine hw_bin (w := 16 + l4) (a0 := 0) (b := 0) (e := 0) (by decide +kernel) rfl ?_
    obtain ⟨hl3, hu3, H⟩ := H
    refine hr_all (a0 := 0) (e := 0) (n := 40) (w := φ 7 ((16 + l4).toNat)) 7 rfl (by decide +kernel) hl3 hu3 rfl ?_
    refine hw_lld (b := 2) (e := 0) (by decide +kernel) g2 ?_
    refine hw_lcmp (w := jm_cmp (φ 7 ((16 + l4).toNat)) l2) (a0 := 0) (b := 0) (e := 0) (by decide +kernel) rfl ?_
    obtain ⟨hz4, ht4, hf4⟩ := H
    refine hw_if (a0 := 0) (b := 1) (e := 34) (by decide +kernel) hz4 (fun q => ?_) (fun q => ?_)
    · have H := ht4 q
      refine hw_inc (L' := (jm_st1 L 4 (0, l4 + 1))) (c := 1) (b := 4) (e := 0) (by decide +kernel) g4 rfl ?_
      refine hw_goto (a0 := 0) (b := 0) (e := 3) (by decide +kernel) ?_
      exact H
    · have H := hf4 q
      refine hw_ld (b := 4) (e := 1) (by decide +kernel) g4 ?_
      exact hw_ret (a0 := 0) (e := 0) (by decide +kernel) (Or.inl rfl) H
theorem sf_42_5_k1_2_l3 {sc : List Int} {d x : Nat} {Q : Option jm_V → hf_F → Nat → Prop} : ∀ (n : Nat) (φ : hf_F) (L : jm_L) (l2 l4 : Int), jm_get L 0 = some (2, 5) → jm_get L 1 = some (0, 2) → jm_get L 2 = some (1, l2) → jm_get L 4 = some (0, l4) → Inv φ → 8 - l4 < (n : Int) → 0 ≤ l4 → l4 ≤ 8 → (∀ (r : Int), (-1 : Int) ≤ r ∧ r ≤ 7 ∧ (r = -1 ∨ (0 ≤ r ∧ r < φ 6 2 ∧ φ 6 2 ≤ 8)) → F_Plan_numberOf_5_k1_2_l3 n φ l2 l4 = r → Q (some (0, r)) φ x) → hw sc d 42 3 L [] φ x Q := by
  intro n
  induction n with
  | zero =>
    intro φ L l2 l4 g0 g1 g2 g4 hI hM b4a b4b hQ
    exfalso
    omega
  | succ n ih =>
    intro φ L l2 l4 g0 g1 g2 g4 hI hM b4a b4b hQ
    refine sf_42_5_k1_2_v3 g0 g1 g2 g4 ?_
    have e0 := F_Plan_numberOf_5_k1_2_l3_s (φ := φ) (l2 := l2) (l4 := l4) n
    have f1 := iv_at (a := 6) (k := 2) (lo := 0) (u := 8) hI (by decide +kernel)
    refine ⟨by unfold hi; omega, by unfold hi; omega, fun q1 => ?_, fun q1 => ?_⟩
    · skip
      have e1a := e0.trans (if_pos q1)
      exact hQ (-1 : Int) ⟨by omega, by omega, by omega⟩ e1a
    · skip
      have e1b := e0.trans (if_neg q1)
      refine ⟨by omega, by omega, ?_⟩
      have f2 := hr_cmp (φ 7 ((16 + l4).toNat)) l2
      refine ⟨by unfold hi; omega, fun q4 => ?_, fun q4 => ?_⟩
      · skip
        have e4a := e1b.trans (if_pos q4)
        exact ih φ (jm_st1 L 4 (0, l4 + 1)) l2 (l4 + 1) (get_st1 g0 (by decide) (fun q => absurd q.1 (by decide))) (get_st1 g1 (by decide) (fun q => absurd q.1 (by decide))) (get_st1 g2 (by decide) (fun q => absurd q.1 (by decide))) get_st1e hI (by omega) (by omega) (by omega) (fun rr hpχ hEχ => hQ rr hpχ (e4a.trans hEχ))
      · skip
        have e4b := e1b.trans (if_neg q4)
        exact hQ l4 ⟨by omega, by omega, by omega⟩ e4b
theorem sf_42_5_k1_2_v {sc : List Int} {d : Nat} {φ : hf_F} {x : Nat} {Q : Option jm_V → hf_F → Nat → Prop} {v2 : Int}
    (H : hw sc d 42 3 (jm_st1 [(0, (2, 5)), (1, (0, 2)), (2, (1, v2))] 4 (0, 0)) [] φ x Q) :
    hw sc d 42 0 [(0, (2, 5)), (1, (0, 2)), (2, (1, v2))] [] φ x Q := by
  refine hw_k (c := 0) (b := 0) (e := 1) (by decide +kernel) ?_
  refine hw_st (L' := (jm_st1 [(0, (2, 5)), (1, (0, 2)), (2, (1, v2))] 4 (0, 0))) (b := 4) (e := 1) (by decide +kernel) rfl ?_
  exact H
theorem sf_42_5_k1_2 {sc : List Int} {d : Nat} {φ : hf_F} {x : Nat} {Q : Option jm_V → hf_F → Nat → Prop} {v2 : Int} (hI : Inv φ)  (hQ : ∀ (r : Int), (-1 : Int) ≤ r ∧ r ≤ 7 ∧ (r = -1 ∨ (0 ≤ r ∧ r < φ 6 2 ∧ φ 6 2 ≤ 8)) → F_Plan_numberOf_5_k1_2 φ v2 = r → Q (some (0, r)) φ x) : hw sc d 42 0 [(0, (2, 5)), (1, (0, 2)), (2, (1, v2))] [] φ x Q := by
  apply sf_42_5_k1_2_v
  have e0 : F_Plan_numberOf_5_k1_2 φ v2 = _ := rfl
  exact sf_42_5_k1_2_l3 ((8 - 0 : Int).toNat + 1) φ (jm_st1 [(0, (2, 5)), (1, (0, 2)), (2, (1, v2))] 4 (0, 0)) v2 0 (get_st1 rfl (by decide) (fun q => absurd q.1 (by decide))) (get_st1 rfl (by decide) (fun q => absurd q.1 (by decide))) (get_st1 rfl (by decide) (fun q => absurd q.1 (by decide))) get_st1e hI (by omega) (by omega) (by omega) (fun rr hpχ hEχ => hQ rr hpχ (e0.trans hEχ))
theorem sf_47_1_5_k2_2_v {sc : List Int} {d : Nat} {φ : hf_F} {x : Nat} {Q : Option jm_V → hf_F → Nat → Prop} 
    (H : hi (φ 1 5) ∧ hi 2 ∧ ((φ 1 5) = 2 → hw sc d 42 0 [(0, (2, 5)), (1, (0, 2)), (2, (1, φ 1 8))] [] φ x (fun r ψ2 y2 => y2 = x ∧ φ = ψ2 ∧ (∃ z2 : Int, r = some (0, z2) ∧ (hi z2 ∧ hi (-1 : Int) ∧ (¬ z2 = (-1 : Int) → Q (some (0, z2)) φ x) ∧ (¬ (¬ z2 = (-1 : Int)) → hw sc d 37 0 [(0, (2, 1)), (1, (0, 3))] [] φ x (fun r ψ5 y5 => y5 = x ∧ (∃ z5 : Int, r = some (0, z5) ∧ (Q (some (0, z2)) ψ5 x)))))))) ∧ (¬ (φ 1 5) = 2 → hw sc d 37 0 [(0, (2, 1)), (1, (0, 1))] [] φ x (fun r ψ7 y7 => y7 = x ∧ (∃ z7 : Int, r = some (0, z7) ∧ (Q (some (0, (-1 : Int))) ψ7 x))))) :
    hw sc (d + 1) 47 0 [(0, (2, 1)), (1, (2, 5)), (2, (0, 2))] [] φ x Q := by
  refine hw_ald (b := 0) (e := 0) (by decide +kernel) rfl (by decide) ?_
  refine hr_gi (w := φ 1 5) (b := 1) (e := 5) 1 rfl (by decide +kernel) rfl ?_
  refine hw_k (c := 2) (b := 0) (e := 1) (by decide +kernel) ?_
  obtain ⟨hz1, hy1, ht1, hf1⟩ := H
  refine hw_if2 (a0 := 0) (b := 0) (e := 16) (by decide +kernel) hz1 hy1 (fun q => ?_) (fun q => ?_)
  · have H := ht1 q
    refine hw_ald (b := 1) (e := 0) (by decide +kernel) rfl (by decide) ?_
    refine hw_ld (b := 2) (e := 0) (by decide +kernel) rfl ?_
    refine hw_ald (b := 0) (e := 0) (by decide +kernel) rfl (by decide) ?_
    refine hr_gl (w := φ 1 8) (b := 1) (e := 8) 1 rfl (by decide +kernel) rfl ?_
    refine hr_call (a0 := 13) (b := 42) (e := 3) (nl := 5) (As := [(0, 2), (1, φ 1 8)]) (R := []) 5 rfl (by decide +kernel) rfl rfl (Nat.le_of_ble_eq_true rfl) (Nat.le_of_ble_eq_true rfl) ?_
    refine hw_mono H ?_
    rintro r ψ2 y2 ⟨hyx, hψx, z2, hr, H⟩
    subst hyx
    subst hψx
    subst hr
    refine ⟨hne0, ?_⟩
    show hw sc (d + 1) 47 25 [(0, (2, 1)), (1, (2, 5)), (2, (0, 2))] [(0, z2)] φ y2 Q
    refine hw_st (L' := (jm_st1 [(0, (2, 1)), (1, (2, 5)), (2, (0, 2))] 3 (0, z2))) (b := 3) (e := 0) (by decide +kernel) rfl ?_
    refine hw_ld (b := 3) (e := 0) (by decide +kernel) get_st1e ?_
    refine hw_k (c := (-1 : Int)) (b := 0) (e := 1) (by decide +kernel) ?_
    obtain ⟨hz3, hy3, ht3, hf3⟩ := H
    refine hw_if2 (a0 := 0) (b := 1) (e := 37) (by decide +kernel) hz3 hy3 (fun q => ?_) (fun q => ?_)
    · have H := ht3 q
      refine hw_ld (b := 3) (e := 0) (by decide +kernel) get_st1e ?_
      exact hw_ret (a0 := 0) (e := 0) (by decide +kernel) (Or.inl rfl) H
    · have H := hf3 q
      refine hw_ald (b := 0) (e := 0) (by decide +kernel) (get_st1 rfl (by decide) (fun q => absurd q.1 (by decide))) (by decide) ?_
      refine hw_k (c := 3) (b := 0) (e := 1) (by decide +kernel) ?_
      refine hr_call (a0 := 11) (b := 37) (e := 2) (nl := 2) (As := [(0, 3)]) (R := []) 1 rfl (by decide +kernel) rfl rfl (Nat.le_of_ble_eq_true rfl) (Nat.le_of_ble_eq_true rfl) ?_
      refine hw_mono H ?_
      rintro r ψ5 y5 ⟨hyx, z5, hr, H⟩
      subst hyx
      subst hr
      refine ⟨hne0, ?_⟩
      show hw sc (d + 1) 47 36 (jm_st1 [(0, (2, 1)), (1, (2, 5)), (2, (0, 2))] 3 (0, z2)) [(0, z5)] ψ5 y5 Q
      refine hw_pop (a0 := 0) (e := 0) (by decide +kernel) (by decide) ?_
      refine hw_ld (b := 3) (e := 0) (by decide +kernel) get_st1e ?_
      exact hw_ret (a0 := 0) (e := 0) (by decide +kernel) (Or.inl rfl) H
  · have H := hf1 q
    refine hw_ald (b := 0) (e := 0) (by decide +kernel) rfl (by decide) ?_
    refine hw_k (c := 1) (b := 0) (e := 1) (by decide +kernel) ?_
    refine hr_call (a0 := 11) (b := 37) (e := 2) (nl := 2) (As := [(0, 1)]) (R := []) 1 rfl (by decide +kernel) rfl rfl (Nat.le_of_ble_eq_true rfl) (Nat.le_of_ble_eq_true rfl) ?_
    refine hw_mono H ?_
    rintro r ψ7 y7 ⟨hyx, z7, hr, H⟩
    subst hyx
    subst hr
    refine ⟨hne0, ?_⟩
    show hw sc (d + 1) 47 13 [(0, (2, 1)), (1, (2, 5)), (2, (0, 2))] [(0, z7)] ψ7 y7 Q
    refine hw_pop (a0 := 0) (e := 0) (by decide +kernel) (by decide) ?_
    refine hw_k (c := (-1 : Int)) (b := 0) (e := 1) (by decide +kernel) ?_
    exact hw_ret (a0 := 0) (e := 0) (by decide +kernel) (Or.inl rfl) H
theorem sf_47_1_5_k2_2 {sc : List Int} {d : Nat} {φ : hf_F} {x : Nat} {Q : Option jm_V → hf_F → Nat → Prop}  (hI : Inv φ)  (hQ : ∀ (r : Int) (ψ : hf_F), Inv ψ → Fr [2009, 2010] φ ψ → (-1 : Int) ≤ r ∧ r ≤ 7 ∧ (r = -1 ∨ (0 ≤ r ∧ r < φ 6 2 ∧ φ 6 2 ≤ 8)) → F_Reader_peekNamed_1_5_k2_2 φ = (r, ψ) → Q (some (0, r)) ψ x) : hw sc (d + 1) 47 0 [(0, (2, 1)), (1, (2, 5)), (2, (0, 2))] [] φ x Q := by
  apply sf_47_1_5_k2_2_v
  have e0 : F_Reader_peekNamed_1_5_k2_2 φ = _ := rfl
  have f1 := iv_at (a := 1) (k := 5) (lo := 0) (u := 5) hI (by decide +kernel)
  refine ⟨by unfold hi; omega, by unfold hi; omega, fun q1 => ?_, fun q1 => ?_⟩
  · skip
    have e1a := e0.trans (if_pos q1)
    refine sf_42_5_k1_2 (φ := φ) hI  (fun z2 hp2 hE2 => ⟨rfl, rfl, z2, rfl, ?_⟩)
    have e2 := e1a.trans (bnp_e hE2)
    have f2 := iv_at (a := 6) (k := 2) (lo := 0) (u := 8) hI (by decide +kernel)
    refine ⟨by unfold hi; omega, by unfold hi; omega, fun q3 => ?_, fun q3 => ?_⟩
    · skip
      have e3a := e2.trans (if_pos q3)
      exact hQ z2 φ hI (fr_rf) ⟨by omega, by omega, by omega⟩ e3a
    · skip
      have e3b := e2.trans (if_neg q3)
      refine sf_37_1 (φ := φ) hI (by omega) (by omega) (fun z5 ψ5 hI5 hF5 hp5 hE5 => ⟨rfl, z5, rfl, ?_⟩)
      have hG5 : Fr [2009, 2010] φ ψ5 := fr_tr (fr_rf) hF5 (by decide)
      have e5 := e3b.trans (bnd_e hE5)
      exact hQ z2 ψ5 hI5 hG5 ⟨by omega, by omega, by omega⟩ e5
  · skip
    have e1b := e0.trans (if_neg q1)
    refine sf_37_1 (φ := φ) hI (by omega) (by omega) (fun z7 ψ7 hI7 hF7 hp7 hE7 => ⟨rfl, z7, rfl, ?_⟩)
    have hG7 : Fr [2009, 2010] φ ψ7 := fr_tr (fr_rf) hF7 (by decide)
    have e7 := e1b.trans (bnd_e hE7)
    have f3 := iv_at (a := 6) (k := 2) (lo := 0) (u := 8) hI (by decide +kernel)
    exact hQ (-1 : Int) ψ7 hI7 hG7 ⟨by omega, by omega, by omega⟩ e7
theorem sf_136_183_v {sc : List Int} {d : Nat} {φ : hf_F} {x : Nat} {Q : Option jm_V → hf_F → Nat → Prop} {v1 v2 v3 : Int}
    (H : hi (φ 183 5) ∧ hi 40 ∧ (40 ≤ (φ 183 5) → Q (some (0, 1)) φ x) ∧ (¬ 40 ≤ (φ 183 5) → 0 ≤ (φ 183 5) ∧ (φ 183 5) < 40 ∧ (0 ≤ (φ 183 5) ∧ (φ 183 5) < 40 ∧ (0 ≤ (φ 183 5) ∧ (φ 183 5) < 40 ∧ (Q (some (0, 1)) (hf_up (hf_up (hf_up (hf_up φ 184 ((φ 183 5).toNat) v1) 185 ((φ 183 5).toNat) v2) 186 ((φ 183 5).toNat) v3) 183 5 ((φ 183 5) + 1)) x))))) :
    hw sc d 136 0 [(0, (2, 183)), (1, (0, v1)), (2, (0, v2)), (3, (0, v3))] [] φ x Q := by
  refine hw_ald (b := 0) (e := 0) (by decide +kernel) rfl (by decide) ?_
  refine hr_gi (w := φ 183 5) (b := 8) (e := 5) 183 rfl (by decide +kernel) rfl ?_
  refine hw_k (c := 40) (b := 1) (e := 2) (by decide +kernel) ?_
  obtain ⟨hz1, hy1, ht1, hf1⟩ := H
  refine hw_if2 (a0 := 0) (b := 3) (e := 49) (by decide +kernel) hz1 hy1 (fun q => ?_) (fun q => ?_)
  · have H := ht1 q
    refine hw_k (c := 1) (b := 0) (e := 1) (by decide +kernel) ?_
    exact hw_ret (a0 := 0) (e := 1) (by decide +kernel) (Or.inr ⟨rfl, by decide⟩) H
  · have H := hf1 q
    refine hw_ald (b := 0) (e := 0) (by decide +kernel) rfl (by decide) ?_
    refine hr_gr (w := 184) (b := 8) (e := 2) 183 rfl (by decide +kernel) ?_
    refine hw_ald (b := 0) (e := 0) (by decide +kernel) rfl (by decide) ?_
    refine hr_gi (w := φ 183 5) (b := 8) (e := 5) 183 rfl (by decide +kernel) rfl ?_
    refine hw_ld (b := 1) (e := 0) (by decide +kernel) rfl ?_
    obtain ⟨hl3, hu3, H⟩ := H
    refine hr_as (a0 := 0) (e := 4) (n := 40) 184 rfl (by decide +kernel) hl3 hu3 ?_
    refine hw_ald (b := 0) (e := 0) (by decide +kernel) rfl (by decide) ?_
    refine hr_gr (w := 185) (b := 8) (e := 3) 183 rfl (by decide +kernel) ?_
    refine hw_ald (b := 0) (e := 0) (by decide +kernel) rfl (by decide) ?_
    refine hr_gi (w := φ 183 5) (b := 8) (e := 5) 183 rfl (by decide +kernel) (hf_up_ne (fun q => absurd q.1 (by decide))) ?_
    refine hw_ld (b := 2) (e := 0) (by decide +kernel) rfl ?_
    obtain ⟨hl4, hu4, H⟩ := H
    refine hr_as (a0 := 0) (e := 4) (n := 40) 185 rfl (by decide +kernel) hl4 hu4 ?_
    refine hw_ald (b := 0) (e := 0) (by decide +kernel) rfl (by decide) ?_
    refine hr_gr (w := 186) (b := 8) (e := 4) 183 rfl (by decide +kernel) ?_
    refine hw_ald (b := 0) (e := 0) (by decide +kernel) rfl (by decide) ?_
    refine hr_gi (w := φ 183 5) (b := 8) (e := 5) 183 rfl (by decide +kernel) ((hf_up_ne (fun q => absurd q.1 (by decide))).trans (hf_up_ne (fun q => absurd q.1 (by decide)))) ?_
    refine hw_ld (b := 3) (e := 0) (by decide +kernel) rfl ?_
    obtain ⟨hl5, hu5, H⟩ := H
    refine hr_as (a0 := 0) (e := 4) (n := 40) 186 rfl (by decide +kernel) hl5 hu5 ?_
    refine hw_ald (b := 0) (e := 0) (by decide +kernel) rfl (by decide) ?_
    refine hw_dup (a0 := 0) (e := 0) (by decide +kernel) (by decide) ?_
    refine hr_gi (w := φ 183 5) (b := 8) (e := 5) 183 rfl (by decide +kernel) ((hf_up_ne (fun q => absurd q.1 (by decide))).trans ((hf_up_ne (fun q => absurd q.1 (by decide))).trans (hf_up_ne (fun q => absurd q.1 (by decide))))) ?_
    refine hw_k (c := 1) (b := 0) (e := 1) (by decide +kernel) ?_
    refine hw_bin (w := (φ 183 5) + 1) (a0 := 0) (b := 0) (e := 0) (by decide +kernel) rfl ?_
    refine hr_pi (b := 8) (e := 5) 183 rfl (by decide +kernel) ?_
    refine hw_k (c := 1) (b := 0) (e := 1) (by decide +kernel) ?_
    exact hw_ret (a0 := 0) (e := 1) (by decide +kernel) (Or.inr ⟨rfl, by decide⟩) H
theorem sf_136_183 {sc : List Int} {d : Nat} {φ : hf_F} {x : Nat} {Q : Option jm_V → hf_F → Nat → Prop} {v1 v2 v3 : Int} (hI : Inv φ) (h1a : 7 ≤ v1) (h1b : v1 ≤ 11) (h2a : (-1 : Int) ≤ v2) (h2b : v2 ≤ 5) (h3a : (-1 : Int) ≤ v3) (h3b : v3 ≤ 60) (hp0 : ((v1 = 7 ∨ v1 = 9) → 0 ≤ v2 ∧ 0 ≤ v3 ∧ v3 ≤ 7)) (hp1 : (v1 = 8 → 0 ≤ v2)) (hQ : ∀ (r : Int) (ψ : hf_F), Inv ψ → Fr [184, 185, 186, 184005] φ ψ → 0 ≤ r ∧ r ≤ 1 → F_BookText_add_183 φ v1 v2 v3 = (r, ψ) → Q (some (0, r)) ψ x) : hw sc d 136 0 [(0, (2, 183)), (1, (0, v1)), (2, (0, v2)), (3, (0, v3))] [] φ x Q := by
  apply sf_136_183_v
  have e0 : F_BookText_add_183 φ v1 v2 v3 = _ := rfl
  have f1 := iv_at (a := 183) (k := 5) (lo := 0) (u := 40) hI (by decide +kernel)
  refine ⟨by unfold hi; omega, by unfold hi; omega, fun q1 => ?_, fun q1 => ?_⟩
  · skip
    have e1a := e0.trans (if_pos q1)
    exact hQ 1 φ hI (fr_rf) ⟨by omega, by omega⟩ e1a
  · skip
    have e1b := e0.trans (if_neg q1)
    refine ⟨by omega, by omega, ?_⟩
    have i2 : Inv (hf_up φ 184 ((φ 183 5).toNat) v1) := iv_bk1 (lo := 0) (u := 22) hI (by decide) (by decide +kernel) (by first | rfl | omega) (by omega) (by omega) (by omega)
    have r2 : Fr [184, 185, 186, 184005] φ (hf_up φ 184 ((φ 183 5).toNat) v1) := fr_upa (fr_rf) (by decide)
    refine ⟨by omega, by omega, ?_⟩
    have f4 : (hf_up φ 184 ((φ 183 5).toNat) v1) 183 5 = φ 183 5 := (hf_up_ne (fun q => absurd q.1 (by decide)))
    have i3 : Inv (hf_up (hf_up φ 184 ((φ 183 5).toNat) v1) 185 ((φ 183 5).toNat) v2) := iv_bk1 (lo := (-1 : Int)) (u := 5) i2 (by decide) (by decide +kernel) (by first | rfl | omega) (by omega) (by omega) (by omega)
    have r3 : Fr [184, 185, 186, 184005] φ (hf_up (hf_up φ 184 ((φ 183 5).toNat) v1) 185 ((φ 183 5).toNat) v2) := fr_upa r2 (by decide)
    refine ⟨by omega, by omega, ?_⟩
    have f6 : (hf_up (hf_up φ 184 ((φ 183 5).toNat) v1) 185 ((φ 183 5).toNat) v2) 183 5 = φ 183 5 := ((hf_up_ne (fun q => absurd q.1 (by decide))).trans (hf_up_ne (fun q => absurd q.1 (by decide))))
    have i5 : Inv (hf_up (hf_up (hf_up φ 184 ((φ 183 5).toNat) v1) 185 ((φ 183 5).toNat) v2) 186 ((φ 183 5).toNat) v3) := iv_bk1 (lo := (-1 : Int)) (u := 60) i3 (by decide) (by decide +kernel) (by first | rfl | omega) (by omega) (by omega) (by omega)
    have r5 : Fr [184, 185, 186, 184005] φ (hf_up (hf_up (hf_up φ 184 ((φ 183 5).toNat) v1) 185 ((φ 183 5).toNat) v2) 186 ((φ 183 5).toNat) v3) := fr_upa r3 (by decide)
    have f8 : (hf_up (hf_up (hf_up φ 184 ((φ 183 5).toNat) v1) 185 ((φ 183 5).toNat) v2) 186 ((φ 183 5).toNat) v3) 183 5 = φ 183 5 := ((hf_up_ne (fun q => absurd q.1 (by decide))).trans ((hf_up_ne (fun q => absurd q.1 (by decide))).trans (hf_up_ne (fun q => absurd q.1 (by decide)))))
    have i7 : Inv (hf_up (hf_up (hf_up (hf_up φ 184 ((φ 183 5).toNat) v1) 185 ((φ 183 5).toNat) v2) 186 ((φ 183 5).toNat) v3) 183 5 ((φ 183 5) + 1)) := iv_bk2 (k := φ 183 5) (p := v1) (q := v2) (r := v3) i5 ((hf_up_ne (fun q => absurd q.1 (by decide))).trans ((hf_up_ne (fun q => absurd q.1 (by decide))).trans (hf_up_ne (fun q => absurd q.1 (by decide))))) (by omega) ((hf_up_ne (fun q => absurd q.1 (by decide))).trans ((hf_up_ne (fun q => absurd q.1 (by decide))).trans hf_up_eq)) ((hf_up_ne (fun q => absurd q.1 (by decide))).trans hf_up_eq) hf_up_eq (by omega) (by omega) (by omega)
    have r7 : Fr [184, 185, 186, 184005] φ (hf_up (hf_up (hf_up (hf_up φ 184 ((φ 183 5).toNat) v1) 185 ((φ 183 5).toNat) v2) 186 ((φ 183 5).toNat) v3) 183 5 ((φ 183 5) + 1)) := fr_up r5 (by decide)
    exact hQ 1 (hf_up (hf_up (hf_up (hf_up φ 184 ((φ 183 5).toNat) v1) 185 ((φ 183 5).toNat) v2) 186 ((φ 183 5).toNat) v3) 183 5 ((φ 183 5) + 1)) i7 r7 ⟨by omega, by omega⟩ e1b
theorem sf_42_5_k1_1_v3 {sc : List Int} {d : Nat} {φ : hf_F} {x : Nat} {Q : Option jm_V → hf_F → Nat → Prop} {L : jm_L} {l2 l4 : Int} (g0 : jm_get L 0 = some (2, 5)) (g1 : jm_get L 1 = some (0, 1)) (g2 : jm_get L 2 = some (1, l2)) (g4 : jm_get L 4 = some (0, l4))
    (H : hi l4 ∧ hi (φ 6 1) ∧ ((φ 6 1) ≤ l4 → Q (some (0, (-1 : Int))) φ x) ∧ (¬ (φ 6 1) ≤ l4 → 0 ≤ (8 + l4) ∧ (8 + l4) < 40 ∧ (hi (jm_cmp (φ 7 ((8 + l4).toNat)) l2) ∧ (¬ (jm_cmp (φ 7 ((8 + l4).toNat)) l2) = 0 → hw sc d 42 3 (jm_st1 L 4 (0, l4 + 1)) [] φ x Q) ∧ (¬ (¬ (jm_cmp (φ 7 ((8 + l4).toNat)) l2) = 0) → Q (some (0, l4)) φ x)))) :
    hw sc d 42 3 L [] φ x Q := by
  refine hw_ld (b := 4) (e := 1) (by decide +kernel) g4 ?_
  refine hw_ald (b := 0) (e := 0) (by decide +kernel) g0 (by decide) ?_
  refine hr_gr (w := 6) (b := 3) (e := 0) 5 rfl (by decide +kernel) ?_
  refine hw_ld (b := 1) (e := 0) (by decide +kernel) g1 ?_
  refine hr_al (b := 0) (a0 := 0) (e := 0) (n := 5) (w := φ 6 1) 6 rfl (by decide +kernel) (by decide) (by decide) (by decide) rfl ?_
  obtain ⟨hz1, hy1, ht1, hf1⟩ := H
  refine hw_if2 (a0 := 0) (b := 3) (e := 40) (by decide +kernel) hz1 hy1 (fun q => ?_) (fun q => ?_)
  · have H := ht1 q
    refine hw_k (c := (-1 : Int)) (b := 0) (e := 1) (by decide +kernel) ?_
    exact hw_ret (a0 := 0) (e := 0) (by decide +kernel) (Or.inl rfl) H
  · have H := hf1 q
    refine hw_ald (b := 0) (e := 0) (by decide +kernel) g0 (by decide) ?_
    refine hr_gr (w := 7) (b := 3) (e := 1) 5 rfl (by decide +kernel) ?_
    refine hw_ld (b := 1) (e := 0) (by decide +kernel) g1 ?_
    refine hw_k (c := 8) (b := 1) (e := 2) (by decide +kernel) ?_
    refine hw_bin (w := 8) (a0 := 0) (b := 2) (e := 0) (by decide +kernel) rfl ?_
    refine hw_ld (b := 4) (e := 1) (by decide +kernel) g4 ?_
    refine hw_bin (w := 8 + l4) (a0 := 0) (b := 0) (e := 0) (by decide +kernel) rfl ?_
    obtain ⟨hl3, hu3, H⟩ := H
    refine hr_all (a0 := 0) (e := 0) (n := 40) (w := φ 7 ((8 + l4).toNat)) 7 rfl (by decide +kernel) hl3 hu3 rfl ?_
    refine hw_lld (b := 2) (e := 0) (by decide +kernel) g2 ?_
    refine hw_lcmp (w := jm_cmp (φ 7 ((8 + l4).toNat)) l2) (a0 := 0) (b := 0) (e := 0) (by decide +kernel) rfl ?_
    obtain ⟨hz4, ht4, hf4⟩ := H
    refine hw_if (a0 := 0) (b := 1) (e := 34) (by decide +kernel) hz4 (fun q => ?_) (fun q => ?_)
    · have H := ht4 q
      refine hw_inc (L' := (jm_st1 L 4 (0, l4 + 1))) (c := 1) (b := 4) (e := 0) (by decide +kernel) g4 rfl ?_
      refine hw_goto (a0 := 0) (b := 0) (e := 3) (by decide +kernel) ?_
      exact H
    · have H := hf4 q
      refine hw_ld (b := 4) (e := 1) (by decide +kernel) g4 ?_
      exact hw_ret (a0 := 0) (e := 0) (by decide +kernel) (Or.inl rfl) H
theorem sf_42_5_k1_1_l3 {sc : List Int} {d x : Nat} {Q : Option jm_V → hf_F → Nat → Prop} : ∀ (n : Nat) (φ : hf_F) (L : jm_L) (l2 l4 : Int), jm_get L 0 = some (2, 5) → jm_get L 1 = some (0, 1) → jm_get L 2 = some (1, l2) → jm_get L 4 = some (0, l4) → Inv φ → 8 - l4 < (n : Int) → 0 ≤ l4 → l4 ≤ 8 → (∀ (r : Int), (-1 : Int) ≤ r ∧ r ≤ 7 ∧ (r = -1 ∨ (0 ≤ r ∧ r < φ 6 1 ∧ φ 6 1 ≤ 8)) → F_Plan_numberOf_5_k1_1_l3 n φ l2 l4 = r → Q (some (0, r)) φ x) → hw sc d 42 3 L [] φ x Q := by
  intro n
  induction n with
  | zero =>
    intro φ L l2 l4 g0 g1 g2 g4 hI hM b4a b4b hQ
    exfalso
    omega
  | succ n ih =>
    intro φ L l2 l4 g0 g1 g2 g4 hI hM b4a b4b hQ
    refine sf_42_5_k1_1_v3 g0 g1 g2 g4 ?_
    have e0 := F_Plan_numberOf_5_k1_1_l3_s (φ := φ) (l2 := l2) (l4 := l4) n
    have f1 := iv_at (a := 6) (k := 1) (lo := 0) (u := 8) hI (by decide +kernel)
    refine ⟨by unfold hi; omega, by unfold hi; omega, fun q1 => ?_, fun q1 => ?_⟩
    · skip
      have e1a := e0.trans (if_pos q1)
      exact hQ (-1 : Int) ⟨by omega, by omega, by omega⟩ e1a
    · skip
      have e1b := e0.trans (if_neg q1)
      refine ⟨by omega, by omega, ?_⟩
      have f2 := hr_cmp (φ 7 ((8 + l4).toNat)) l2
      refine ⟨by unfold hi; omega, fun q4 => ?_, fun q4 => ?_⟩
      · skip
        have e4a := e1b.trans (if_pos q4)
        exact ih φ (jm_st1 L 4 (0, l4 + 1)) l2 (l4 + 1) (get_st1 g0 (by decide) (fun q => absurd q.1 (by decide))) (get_st1 g1 (by decide) (fun q => absurd q.1 (by decide))) (get_st1 g2 (by decide) (fun q => absurd q.1 (by decide))) get_st1e hI (by omega) (by omega) (by omega) (fun rr hpχ hEχ => hQ rr hpχ (e4a.trans hEχ))
      · skip
        have e4b := e1b.trans (if_neg q4)
        exact hQ l4 ⟨by omega, by omega, by omega⟩ e4b
theorem sf_42_5_k1_1_v {sc : List Int} {d : Nat} {φ : hf_F} {x : Nat} {Q : Option jm_V → hf_F → Nat → Prop} {v2 : Int}
    (H : hw sc d 42 3 (jm_st1 [(0, (2, 5)), (1, (0, 1)), (2, (1, v2))] 4 (0, 0)) [] φ x Q) :
    hw sc d 42 0 [(0, (2, 5)), (1, (0, 1)), (2, (1, v2))] [] φ x Q := by
  refine hw_k (c := 0) (b := 0) (e := 1) (by decide +kernel) ?_
  refine hw_st (L' := (jm_st1 [(0, (2, 5)), (1, (0, 1)), (2, (1, v2))] 4 (0, 0))) (b := 4) (e := 1) (by decide +kernel) rfl ?_
  exact H
theorem sf_42_5_k1_1 {sc : List Int} {d : Nat} {φ : hf_F} {x : Nat} {Q : Option jm_V → hf_F → Nat → Prop} {v2 : Int} (hI : Inv φ)  (hQ : ∀ (r : Int), (-1 : Int) ≤ r ∧ r ≤ 7 ∧ (r = -1 ∨ (0 ≤ r ∧ r < φ 6 1 ∧ φ 6 1 ≤ 8)) → F_Plan_numberOf_5_k1_1 φ v2 = r → Q (some (0, r)) φ x) : hw sc d 42 0 [(0, (2, 5)), (1, (0, 1)), (2, (1, v2))] [] φ x Q := by
  apply sf_42_5_k1_1_v
  have e0 : F_Plan_numberOf_5_k1_1 φ v2 = _ := rfl
  exact sf_42_5_k1_1_l3 ((8 - 0 : Int).toNat + 1) φ (jm_st1 [(0, (2, 5)), (1, (0, 1)), (2, (1, v2))] 4 (0, 0)) v2 0 (get_st1 rfl (by decide) (fun q => absurd q.1 (by decide))) (get_st1 rfl (by decide) (fun q => absurd q.1 (by decide))) (get_st1 rfl (by decide) (fun q => absurd q.1 (by decide))) get_st1e hI (by omega) (by omega) (by omega) (fun rr hpχ hEχ => hQ rr hpχ (e0.trans hEχ))
theorem sf_47_1_5_k2_1_v {sc : List Int} {d : Nat} {φ : hf_F} {x : Nat} {Q : Option jm_V → hf_F → Nat → Prop} 
    (H : hi (φ 1 5) ∧ hi 2 ∧ ((φ 1 5) = 2 → hw sc d 42 0 [(0, (2, 5)), (1, (0, 1)), (2, (1, φ 1 8))] [] φ x (fun r ψ2 y2 => y2 = x ∧ φ = ψ2 ∧ (∃ z2 : Int, r = some (0, z2) ∧ (hi z2 ∧ hi (-1 : Int) ∧ (¬ z2 = (-1 : Int) → Q (some (0, z2)) φ x) ∧ (¬ (¬ z2 = (-1 : Int)) → hw sc d 37 0 [(0, (2, 1)), (1, (0, 3))] [] φ x (fun r ψ5 y5 => y5 = x ∧ (∃ z5 : Int, r = some (0, z5) ∧ (Q (some (0, z2)) ψ5 x)))))))) ∧ (¬ (φ 1 5) = 2 → hw sc d 37 0 [(0, (2, 1)), (1, (0, 1))] [] φ x (fun r ψ7 y7 => y7 = x ∧ (∃ z7 : Int, r = some (0, z7) ∧ (Q (some (0, (-1 : Int))) ψ7 x))))) :
    hw sc (d + 1) 47 0 [(0, (2, 1)), (1, (2, 5)), (2, (0, 1))] [] φ x Q := by
  refine hw_ald (b := 0) (e := 0) (by decide +kernel) rfl (by decide) ?_
  refine hr_gi (w := φ 1 5) (b := 1) (e := 5) 1 rfl (by decide +kernel) rfl ?_
  refine hw_k (c := 2) (b := 0) (e := 1) (by decide +kernel) ?_
  obtain ⟨hz1, hy1, ht1, hf1⟩ := H
  refine hw_if2 (a0 := 0) (b := 0) (e := 16) (by decide +kernel) hz1 hy1 (fun q => ?_) (fun q => ?_)
  · have H := ht1 q
    refine hw_ald (b := 1) (e := 0) (by decide +kernel) rfl (by decide) ?_
    refine hw_ld (b := 2) (e := 0) (by decide +kernel) rfl ?_
    refine hw_ald (b := 0) (e := 0) (by decide +kernel) rfl (by decide) ?_
    refine hr_gl (w := φ 1 8) (b := 1) (e := 8) 1 rfl (by decide +kernel) rfl ?_
    refine hr_call (a0 := 13) (b := 42) (e := 3) (nl := 5) (As := [(0, 1), (1, φ 1 8)]) (R := []) 5 rfl (by decide +kernel) rfl rfl (Nat.le_of_ble_eq_true rfl) (Nat.le_of_ble_eq_true rfl) ?_
    refine hw_mono H ?_
    rintro r ψ2 y2 ⟨hyx, hψx, z2, hr, H⟩
    subst hyx
    subst hψx
    subst hr
    refine ⟨hne0, ?_⟩
    show hw sc (d + 1) 47 25 [(0, (2, 1)), (1, (2, 5)), (2, (0, 1))] [(0, z2)] φ y2 Q
    refine hw_st (L' := (jm_st1 [(0, (2, 1)), (1, (2, 5)), (2, (0, 1))] 3 (0, z2))) (b := 3) (e := 0) (by decide +kernel) rfl ?_
    refine hw_ld (b := 3) (e := 0) (by decide +kernel) get_st1e ?_
    refine hw_k (c := (-1 : Int)) (b := 0) (e := 1) (by decide +kernel) ?_
    obtain ⟨hz3, hy3, ht3, hf3⟩ := H
    refine hw_if2 (a0 := 0) (b := 1) (e := 37) (by decide +kernel) hz3 hy3 (fun q => ?_) (fun q => ?_)
    · have H := ht3 q
      refine hw_ld (b := 3) (e := 0) (by decide +kernel) get_st1e ?_
      exact hw_ret (a0 := 0) (e := 0) (by decide +kernel) (Or.inl rfl) H
    · have H := hf3 q
      refine hw_ald (b := 0) (e := 0) (by decide +kernel) (get_st1 rfl (by decide) (fun q => absurd q.1 (by decide))) (by decide) ?_
      refine hw_k (c := 3) (b := 0) (e := 1) (by decide +kernel) ?_
      refine hr_call (a0 := 11) (b := 37) (e := 2) (nl := 2) (As := [(0, 3)]) (R := []) 1 rfl (by decide +kernel) rfl rfl (Nat.le_of_ble_eq_true rfl) (Nat.le_of_ble_eq_true rfl) ?_
      refine hw_mono H ?_
      rintro r ψ5 y5 ⟨hyx, z5, hr, H⟩
      subst hyx
      subst hr
      refine ⟨hne0, ?_⟩
      show hw sc (d + 1) 47 36 (jm_st1 [(0, (2, 1)), (1, (2, 5)), (2, (0, 1))] 3 (0, z2)) [(0, z5)] ψ5 y5 Q
      refine hw_pop (a0 := 0) (e := 0) (by decide +kernel) (by decide) ?_
      refine hw_ld (b := 3) (e := 0) (by decide +kernel) get_st1e ?_
      exact hw_ret (a0 := 0) (e := 0) (by decide +kernel) (Or.inl rfl) H
  · have H := hf1 q
    refine hw_ald (b := 0) (e := 0) (by decide +kernel) rfl (by decide) ?_
    refine hw_k (c := 1) (b := 0) (e := 1) (by decide +kernel) ?_
    refine hr_call (a0 := 11) (b := 37) (e := 2) (nl := 2) (As := [(0, 1)]) (R := []) 1 rfl (by decide +kernel) rfl rfl (Nat.le_of_ble_eq_true rfl) (Nat.le_of_ble_eq_true rfl) ?_
    refine hw_mono H ?_
    rintro r ψ7 y7 ⟨hyx, z7, hr, H⟩
    subst hyx
    subst hr
    refine ⟨hne0, ?_⟩
    show hw sc (d + 1) 47 13 [(0, (2, 1)), (1, (2, 5)), (2, (0, 1))] [(0, z7)] ψ7 y7 Q
    refine hw_pop (a0 := 0) (e := 0) (by decide +kernel) (by decide) ?_
    refine hw_k (c := (-1 : Int)) (b := 0) (e := 1) (by decide +kernel) ?_
    exact hw_ret (a0 := 0) (e := 0) (by decide +kernel) (Or.inl rfl) H
theorem sf_47_1_5_k2_1 {sc : List Int} {d : Nat} {φ : hf_F} {x : Nat} {Q : Option jm_V → hf_F → Nat → Prop}  (hI : Inv φ)  (hQ : ∀ (r : Int) (ψ : hf_F), Inv ψ → Fr [2009, 2010] φ ψ → (-1 : Int) ≤ r ∧ r ≤ 7 ∧ (r = -1 ∨ (0 ≤ r ∧ r < φ 6 1 ∧ φ 6 1 ≤ 8)) → F_Reader_peekNamed_1_5_k2_1 φ = (r, ψ) → Q (some (0, r)) ψ x) : hw sc (d + 1) 47 0 [(0, (2, 1)), (1, (2, 5)), (2, (0, 1))] [] φ x Q := by
  apply sf_47_1_5_k2_1_v
  have e0 : F_Reader_peekNamed_1_5_k2_1 φ = _ := rfl
  have f1 := iv_at (a := 1) (k := 5) (lo := 0) (u := 5) hI (by decide +kernel)
  refine ⟨by unfold hi; omega, by unfold hi; omega, fun q1 => ?_, fun q1 => ?_⟩
  · skip
    have e1a := e0.trans (if_pos q1)
    refine sf_42_5_k1_1 (φ := φ) hI  (fun z2 hp2 hE2 => ⟨rfl, rfl, z2, rfl, ?_⟩)
    have e2 := e1a.trans (bnp_e hE2)
    have f2 := iv_at (a := 6) (k := 1) (lo := 0) (u := 8) hI (by decide +kernel)
    refine ⟨by unfold hi; omega, by unfold hi; omega, fun q3 => ?_, fun q3 => ?_⟩
    · skip
      have e3a := e2.trans (if_pos q3)
      exact hQ z2 φ hI (fr_rf) ⟨by omega, by omega, by omega⟩ e3a
    · skip
      have e3b := e2.trans (if_neg q3)
      refine sf_37_1 (φ := φ) hI (by omega) (by omega) (fun z5 ψ5 hI5 hF5 hp5 hE5 => ⟨rfl, z5, rfl, ?_⟩)
      have hG5 : Fr [2009, 2010] φ ψ5 := fr_tr (fr_rf) hF5 (by decide)
      have e5 := e3b.trans (bnd_e hE5)
      exact hQ z2 ψ5 hI5 hG5 ⟨by omega, by omega, by omega⟩ e5
  · skip
    have e1b := e0.trans (if_neg q1)
    refine sf_37_1 (φ := φ) hI (by omega) (by omega) (fun z7 ψ7 hI7 hF7 hp7 hE7 => ⟨rfl, z7, rfl, ?_⟩)
    have hG7 : Fr [2009, 2010] φ ψ7 := fr_tr (fr_rf) hF7 (by decide)
    have e7 := e1b.trans (bnd_e hE7)
    have f3 := iv_at (a := 6) (k := 1) (lo := 0) (u := 8) hI (by decide +kernel)
    exact hQ (-1 : Int) ψ7 hI7 hG7 ⟨by omega, by omega, by omega⟩ e7
theorem sf_138_183_v {sc : List Int} {d : Nat} {φ : hf_F} {x : Nat} {Q : Option jm_V → hf_F → Nat → Prop} {v1 : Int}
    (H : hw sc (d + 2) 135 0 [(0, (2, 1)), (1, (0, 8))] [] φ x (fun r ψ1 y1 => y1 = x ∧ φ = ψ1 ∧ (∃ z1 : Int, r = some (0, z1) ∧ (hi z1 ∧ (z1 = 0 → hw sc (d + 2) 135 0 [(0, (2, 1)), (1, (0, 7))] [] φ x (fun r ψ3 y3 => y3 = x ∧ φ = ψ3 ∧ (∃ z3 : Int, r = some (0, z3) ∧ (hi z3 ∧ (¬ z3 = 0 → hw sc (d + 2) 29 0 [(0, (2, 1))] [] φ x (fun r ψ5 y5 => y5 = x ∧ (r = none ∧ (hi z3 ∧ (z3 = 0 → hw sc (d + 2) 47 0 [(0, (2, 1)), (1, (2, 5)), (2, (0, 2))] [] ψ5 x (fun r ψ7 y7 => y7 = x ∧ (∃ z7 : Int, r = some (0, z7) ∧ (hi z7 ∧ hi (-1 : Int) ∧ (¬ z7 = (-1 : Int) → hw sc (d + 2) 29 0 [(0, (2, 1))] [] ψ7 x (fun r ψ9 y9 => y9 = x ∧ (r = none ∧ (hi z3 ∧ (z3 = 0 → hw sc (d + 2) 136 0 [(0, (2, 183)), (1, (0, 9)), (2, (0, v1)), (3, (0, z7))] [] ψ9 x (fun r ψ11 y11 => y11 = x ∧ (∃ z11 : Int, r = some (0, z11) ∧ ((z11 = 0 ∨ z11 = 1) ∧ Q (some (0, z11)) ψ11 x)))) ∧ (¬ z3 = 0 → hw sc (d + 2) 136 0 [(0, (2, 183)), (1, (0, 7)), (2, (0, v1)), (3, (0, z7))] [] ψ9 x (fun r ψ13 y13 => y13 = x ∧ (∃ z13 : Int, r = some (0, z13) ∧ ((z13 = 0 ∨ z13 = 1) ∧ Q (some (0, z13)) ψ13 x)))))))) ∧ (¬ (¬ z7 = (-1 : Int)) → Q (some (0, 0)) ψ7 x))))) ∧ (¬ z3 = 0 → hw sc (d + 2) 47 0 [(0, (2, 1)), (1, (2, 5)), (2, (0, 1))] [] ψ5 x (fun r ψ16 y16 => y16 = x ∧ (∃ z16 : Int, r = some (0, z16) ∧ (hi z16 ∧ hi (-1 : Int) ∧ (¬ z16 = (-1 : Int) → hw sc (d + 2) 29 0 [(0, (2, 1))] [] ψ16 x (fun r ψ18 y18 => y18 = x ∧ (r = none ∧ (hi z3 ∧ (z3 = 0 → hw sc (d + 2) 136 0 [(0, (2, 183)), (1, (0, 9)), (2, (0, v1)), (3, (0, z16))] [] ψ18 x (fun r ψ20 y20 => y20 = x ∧ (∃ z20 : Int, r = some (0, z20) ∧ ((z20 = 0 ∨ z20 = 1) ∧ Q (some (0, z20)) ψ20 x)))) ∧ (¬ z3 = 0 → hw sc (d + 2) 136 0 [(0, (2, 183)), (1, (0, 7)), (2, (0, v1)), (3, (0, z16))] [] ψ18 x (fun r ψ22 y22 => y22 = x ∧ (∃ z22 : Int, r = some (0, z22) ∧ ((z22 = 0 ∨ z22 = 1) ∧ Q (some (0, z22)) ψ22 x)))))))) ∧ (¬ (¬ z16 = (-1 : Int)) → Q (some (0, 0)) ψ16 x))))))))) ∧ (¬ (¬ z3 = 0) → hw sc (d + 2) 135 0 [(0, (2, 1)), (1, (0, 9))] [] φ x (fun r ψ25 y25 => y25 = x ∧ φ = ψ25 ∧ (∃ z25 : Int, r = some (0, z25) ∧ (hi z25 ∧ (¬ z25 = 0 → hw sc (d + 2) 29 0 [(0, (2, 1))] [] φ x (fun r ψ27 y27 => y27 = x ∧ (r = none ∧ (hi z3 ∧ (z3 = 0 → hw sc (d + 2) 47 0 [(0, (2, 1)), (1, (2, 5)), (2, (0, 2))] [] ψ27 x (fun r ψ29 y29 => y29 = x ∧ (∃ z29 : Int, r = some (0, z29) ∧ (hi z29 ∧ hi (-1 : Int) ∧ (¬ z29 = (-1 : Int) → hw sc (d + 2) 29 0 [(0, (2, 1))] [] ψ29 x (fun r ψ31 y31 => y31 = x ∧ (r = none ∧ (hi z3 ∧ (z3 = 0 → hw sc (d + 2) 136 0 [(0, (2, 183)), (1, (0, 9)), (2, (0, v1)), (3, (0, z29))] [] ψ31 x (fun r ψ33 y33 => y33 = x ∧ (∃ z33 : Int, r = some (0, z33) ∧ ((z33 = 0 ∨ z33 = 1) ∧ Q (some (0, z33)) ψ33 x)))) ∧ (¬ z3 = 0 → hw sc (d + 2) 136 0 [(0, (2, 183)), (1, (0, 7)), (2, (0, v1)), (3, (0, z29))] [] ψ31 x (fun r ψ35 y35 => y35 = x ∧ (∃ z35 : Int, r = some (0, z35) ∧ ((z35 = 0 ∨ z35 = 1) ∧ Q (some (0, z35)) ψ35 x)))))))) ∧ (¬ (¬ z29 = (-1 : Int)) → Q (some (0, 0)) ψ29 x))))) ∧ (¬ z3 = 0 → hw sc (d + 2) 47 0 [(0, (2, 1)), (1, (2, 5)), (2, (0, 1))] [] ψ27 x (fun r ψ38 y38 => y38 = x ∧ (∃ z38 : Int, r = some (0, z38) ∧ (hi z38 ∧ hi (-1 : Int) ∧ (¬ z38 = (-1 : Int) → hw sc (d + 2) 29 0 [(0, (2, 1))] [] ψ38 x (fun r ψ40 y40 => y40 = x ∧ (r = none ∧ (hi z3 ∧ (z3 = 0 → hw sc (d + 2) 136 0 [(0, (2, 183)), (1, (0, 9)), (2, (0, v1)), (3, (0, z38))] [] ψ40 x (fun r ψ42 y42 => y42 = x ∧ (∃ z42 : Int, r = some (0, z42) ∧ ((z42 = 0 ∨ z42 = 1) ∧ Q (some (0, z42)) ψ42 x)))) ∧ (¬ z3 = 0 → hw sc (d + 2) 136 0 [(0, (2, 183)), (1, (0, 7)), (2, (0, v1)), (3, (0, z38))] [] ψ40 x (fun r ψ44 y44 => y44 = x ∧ (∃ z44 : Int, r = some (0, z44) ∧ ((z44 = 0 ∨ z44 = 1) ∧ Q (some (0, z44)) ψ44 x)))))))) ∧ (¬ (¬ z38 = (-1 : Int)) → Q (some (0, 0)) ψ38 x))))))))) ∧ (¬ (¬ z25 = 0) → hw sc (d + 2) 37 0 [(0, (2, 1)), (1, (0, 1))] [] φ x (fun r ψ47 y47 => y47 = x ∧ (∃ z47 : Int, r = some (0, z47) ∧ ((z47 = 0 ∨ z47 = 1) ∧ Q (some (0, z47)) ψ47 x)))))))))))) ∧ (¬ z1 = 0 → hw sc (d + 2) 29 0 [(0, (2, 1))] [] φ x (fun r ψ49 y49 => y49 = x ∧ (r = none ∧ (hw sc (d + 2) 136 0 [(0, (2, 183)), (1, (0, 8)), (2, (0, v1)), (3, (0, 0))] [] ψ49 x (fun r ψ50 y50 => y50 = x ∧ (∃ z50 : Int, r = some (0, z50) ∧ ((z50 = 0 ∨ z50 = 1) ∧ Q (some (0, z50)) ψ50 x))))))))))) :
    hw sc (d + 3) 138 0 [(0, (2, 183)), (1, (0, v1))] [] φ x Q := by
  refine hw_ald (b := 0) (e := 0) (by decide +kernel) rfl (by decide) ?_
  refine hr_gr (w := 1) (b := 8) (e := 0) 183 rfl (by decide +kernel) ?_
  refine hw_k (c := 8) (b := 1) (e := 2) (by decide +kernel) ?_
  refine hr_call (a0 := 11) (b := 135) (e := 2) (nl := 2) (As := [(0, 8)]) (R := []) 1 rfl (by decide +kernel) rfl rfl (Nat.le_of_ble_eq_true rfl) (Nat.le_of_ble_eq_true rfl) ?_
  refine hw_mono H ?_
  rintro r ψ1 y1 ⟨hyx, hψx, z1, hr, H⟩
  subst hyx
  subst hψx
  subst hr
  refine ⟨hne0, ?_⟩
  show hw sc (d + 3) 138 9 [(0, (2, 183)), (1, (0, v1))] [(0, z1)] φ y1 Q
  obtain ⟨hz2, ht2, hf2⟩ := H
  refine hw_if (a0 := 0) (b := 0) (e := 28) (by decide +kernel) hz2 (fun q => ?_) (fun q => ?_)
  · have H := ht2 q
    refine hw_ald (b := 0) (e := 0) (by decide +kernel) rfl (by decide) ?_
    refine hr_gr (w := 1) (b := 8) (e := 0) 183 rfl (by decide +kernel) ?_
    refine hw_k (c := 7) (b := 1) (e := 2) (by decide +kernel) ?_
    refine hr_call (a0 := 11) (b := 135) (e := 2) (nl := 2) (As := [(0, 7)]) (R := []) 1 rfl (by decide +kernel) rfl rfl (Nat.le_of_ble_eq_true rfl) (Nat.le_of_ble_eq_true rfl) ?_
    refine hw_mono H ?_
    rintro r ψ3 y3 ⟨hyx, hψx, z3, hr, H⟩
    subst hyx
    subst hψx
    subst hr
    refine ⟨hne0, ?_⟩
    show hw sc (d + 3) 138 37 [(0, (2, 183)), (1, (0, v1))] [(0, z3)] φ y3 Q
    refine hw_st (L' := (jm_st1 [(0, (2, 183)), (1, (0, v1))] 2 (0, z3))) (b := 2) (e := 0) (by decide +kernel) rfl ?_
    refine hw_ld (b := 2) (e := 0) (by decide +kernel) get_st1e ?_
    obtain ⟨hz4, ht4, hf4⟩ := H
    refine hw_if (a0 := 0) (b := 1) (e := 63) (by decide +kernel) hz4 (fun q => ?_) (fun q => ?_)
    · have H := ht4 q
      refine hw_ald (b := 0) (e := 0) (by decide +kernel) (get_st1 rfl (by decide) (fun q => absurd q.1 (by decide))) (by decide) ?_
      refine hr_gr (w := 1) (b := 8) (e := 0) 183 rfl (by decide +kernel) ?_
      refine hr_call (a0 := 11) (b := 29) (e := 1) (nl := 1) (As := []) (R := []) 1 rfl (by decide +kernel) rfl rfl (Nat.le_of_ble_eq_true rfl) (Nat.le_of_ble_eq_true rfl) ?_
      refine hw_mono H ?_
      rintro r ψ5 y5 ⟨hyx, hr, H⟩
      subst hyx
      subst hr
      refine ⟨hnen, ?_⟩
      show hw sc (d + 3) 138 70 (jm_st1 [(0, (2, 183)), (1, (0, v1))] 2 (0, z3)) [] ψ5 y5 Q
      refine hw_ald (b := 0) (e := 0) (by decide +kernel) (get_st1 rfl (by decide) (fun q => absurd q.1 (by decide))) (by decide) ?_
      refine hr_gr (w := 1) (b := 8) (e := 0) 183 rfl (by decide +kernel) ?_
      refine hw_ald (b := 0) (e := 0) (by decide +kernel) (get_st1 rfl (by decide) (fun q => absurd q.1 (by decide))) (by decide) ?_
      refine hr_gr (w := 5) (b := 8) (e := 1) 183 rfl (by decide +kernel) ?_
      refine hw_ld (b := 2) (e := 0) (by decide +kernel) get_st1e ?_
      obtain ⟨hz6, ht6, hf6⟩ := H
      refine hw_if (a0 := 0) (b := 0) (e := 86) (by decide +kernel) hz6 (fun q => ?_) (fun q => ?_)
      · have H := ht6 q
        refine hw_k (c := 2) (b := 0) (e := 1) (by decide +kernel) ?_
        refine hr_call (a0 := 11) (b := 47) (e := 3) (nl := 4) (As := [(2, 5), (0, 2)]) (R := []) 1 rfl (by decide +kernel) rfl rfl (Nat.le_of_ble_eq_true rfl) (Nat.le_of_ble_eq_true rfl) ?_
        refine hw_mono H ?_
        rintro r ψ7 y7 ⟨hyx, z7, hr, H⟩
        subst hyx
        subst hr
        refine ⟨hne0, ?_⟩
        show hw sc (d + 3) 138 90 (jm_st1 [(0, (2, 183)), (1, (0, v1))] 2 (0, z3)) [(0, z7)] ψ7 y7 Q
        refine hw_st (L' := (jm_st1 (jm_st1 [(0, (2, 183)), (1, (0, v1))] 2 (0, z3)) 3 (0, z7))) (b := 3) (e := 0) (by decide +kernel) rfl ?_
        refine hw_ld (b := 3) (e := 0) (by decide +kernel) get_st1e ?_
        refine hw_k (c := (-1 : Int)) (b := 0) (e := 1) (by decide +kernel) ?_
        obtain ⟨hz8, hy8, ht8, hf8⟩ := H
        refine hw_if2 (a0 := 0) (b := 1) (e := 98) (by decide +kernel) hz8 hy8 (fun q => ?_) (fun q => ?_)
        · have H := ht8 q
          refine hw_ald (b := 0) (e := 0) (by decide +kernel) (get_st1 (get_st1 rfl (by decide) (fun q => absurd q.1 (by decide))) (by decide) (fun q => absurd q.1 (by decide))) (by decide) ?_
          refine hr_gr (w := 1) (b := 8) (e := 0) 183 rfl (by decide +kernel) ?_
          refine hr_call (a0 := 11) (b := 29) (e := 1) (nl := 1) (As := []) (R := []) 1 rfl (by decide +kernel) rfl rfl (Nat.le_of_ble_eq_true rfl) (Nat.le_of_ble_eq_true rfl) ?_
          refine hw_mono H ?_
          rintro r ψ9 y9 ⟨hyx, hr, H⟩
          subst hyx
          subst hr
          refine ⟨hnen, ?_⟩
          show hw sc (d + 3) 138 105 (jm_st1 (jm_st1 [(0, (2, 183)), (1, (0, v1))] 2 (0, z3)) 3 (0, z7)) [] ψ9 y9 Q
          refine hw_ald (b := 0) (e := 0) (by decide +kernel) (get_st1 (get_st1 rfl (by decide) (fun q => absurd q.1 (by decide))) (by decide) (fun q => absurd q.1 (by decide))) (by decide) ?_
          refine hw_ld (b := 2) (e := 0) (by decide +kernel) (get_st1 get_st1e (by decide) (fun q => tg0 q.2)) ?_
          obtain ⟨hz10, ht10, hf10⟩ := H
          refine hw_if (a0 := 0) (b := 0) (e := 115) (by decide +kernel) hz10 (fun q => ?_) (fun q => ?_)
          · have H := ht10 q
            refine hw_k (c := 9) (b := 1) (e := 2) (by decide +kernel) ?_
            refine hw_ld (b := 1) (e := 0) (by decide +kernel) (get_st1 (get_st1 rfl (by decide) (fun q => tg0 q.2)) (by decide) (fun q => absurd q.1 (by decide))) ?_
            refine hw_ld (b := 3) (e := 0) (by decide +kernel) get_st1e ?_
            refine hr_call (a0 := 18) (b := 136) (e := 4) (nl := 4) (As := [(0, 9), (0, v1), (0, z7)]) (R := []) 183 rfl (by decide +kernel) rfl rfl (Nat.le_of_ble_eq_true rfl) (Nat.le_of_ble_eq_true rfl) ?_
            refine hw_mono H ?_
            rintro r ψ11 y11 ⟨hyx, z11, hr, H⟩
            subst hyx
            subst hr
            refine ⟨hne0, ?_⟩
            show hw sc (d + 3) 138 122 (jm_st1 (jm_st1 [(0, (2, 183)), (1, (0, v1))] 2 (0, z3)) 3 (0, z7)) [(0, z11)] ψ11 y11 Q
            exact hw_ret (a0 := 0) (e := 1) (by decide +kernel) (Or.inr ⟨rfl, H.1⟩) H.2
          · have H := hf10 q
            refine hw_k (c := 7) (b := 1) (e := 2) (by decide +kernel) ?_
            refine hw_goto (a0 := 0) (b := 0) (e := 117) (by decide +kernel) ?_
            refine hw_ld (b := 1) (e := 0) (by decide +kernel) (get_st1 (get_st1 rfl (by decide) (fun q => tg0 q.2)) (by decide) (fun q => absurd q.1 (by decide))) ?_
            refine hw_ld (b := 3) (e := 0) (by decide +kernel) get_st1e ?_
            refine hr_call (a0 := 18) (b := 136) (e := 4) (nl := 4) (As := [(0, 7), (0, v1), (0, z7)]) (R := []) 183 rfl (by decide +kernel) rfl rfl (Nat.le_of_ble_eq_true rfl) (Nat.le_of_ble_eq_true rfl) ?_
            refine hw_mono H ?_
            rintro r ψ13 y13 ⟨hyx, z13, hr, H⟩
            subst hyx
            subst hr
            refine ⟨hne0, ?_⟩
            show hw sc (d + 3) 138 122 (jm_st1 (jm_st1 [(0, (2, 183)), (1, (0, v1))] 2 (0, z3)) 3 (0, z7)) [(0, z13)] ψ13 y13 Q
            exact hw_ret (a0 := 0) (e := 1) (by decide +kernel) (Or.inr ⟨rfl, H.1⟩) H.2
        · have H := hf8 q
          refine hw_k (c := 0) (b := 0) (e := 1) (by decide +kernel) ?_
          exact hw_ret (a0 := 0) (e := 1) (by decide +kernel) (Or.inr ⟨rfl, by decide⟩) H
      · have H := hf6 q
        refine hw_k (c := 1) (b := 0) (e := 1) (by decide +kernel) ?_
        refine hw_goto (a0 := 0) (b := 0) (e := 87) (by decide +kernel) ?_
        refine hr_call (a0 := 11) (b := 47) (e := 3) (nl := 4) (As := [(2, 5), (0, 1)]) (R := []) 1 rfl (by decide +kernel) rfl rfl (Nat.le_of_ble_eq_true rfl) (Nat.le_of_ble_eq_true rfl) ?_
        refine hw_mono H ?_
        rintro r ψ16 y16 ⟨hyx, z16, hr, H⟩
        subst hyx
        subst hr
        refine ⟨hne0, ?_⟩
        show hw sc (d + 3) 138 90 (jm_st1 [(0, (2, 183)), (1, (0, v1))] 2 (0, z3)) [(0, z16)] ψ16 y16 Q
        refine hw_st (L' := (jm_st1 (jm_st1 [(0, (2, 183)), (1, (0, v1))] 2 (0, z3)) 3 (0, z16))) (b := 3) (e := 0) (by decide +kernel) rfl ?_
        refine hw_ld (b := 3) (e := 0) (by decide +kernel) get_st1e ?_
        refine hw_k (c := (-1 : Int)) (b := 0) (e := 1) (by decide +kernel) ?_
        obtain ⟨hz17, hy17, ht17, hf17⟩ := H
        refine hw_if2 (a0 := 0) (b := 1) (e := 98) (by decide +kernel) hz17 hy17 (fun q => ?_) (fun q => ?_)
        · have H := ht17 q
          refine hw_ald (b := 0) (e := 0) (by decide +kernel) (get_st1 (get_st1 rfl (by decide) (fun q => absurd q.1 (by decide))) (by decide) (fun q => absurd q.1 (by decide))) (by decide) ?_
          refine hr_gr (w := 1) (b := 8) (e := 0) 183 rfl (by decide +kernel) ?_
          refine hr_call (a0 := 11) (b := 29) (e := 1) (nl := 1) (As := []) (R := []) 1 rfl (by decide +kernel) rfl rfl (Nat.le_of_ble_eq_true rfl) (Nat.le_of_ble_eq_true rfl) ?_
          refine hw_mono H ?_
          rintro r ψ18 y18 ⟨hyx, hr, H⟩
          subst hyx
          subst hr
          refine ⟨hnen, ?_⟩
          show hw sc (d + 3) 138 105 (jm_st1 (jm_st1 [(0, (2, 183)), (1, (0, v1))] 2 (0, z3)) 3 (0, z16)) [] ψ18 y18 Q
          refine hw_ald (b := 0) (e := 0) (by decide +kernel) (get_st1 (get_st1 rfl (by decide) (fun q => absurd q.1 (by decide))) (by decide) (fun q => absurd q.1 (by decide))) (by decide) ?_
          refine hw_ld (b := 2) (e := 0) (by decide +kernel) (get_st1 get_st1e (by decide) (fun q => tg0 q.2)) ?_
          obtain ⟨hz19, ht19, hf19⟩ := H
          refine hw_if (a0 := 0) (b := 0) (e := 115) (by decide +kernel) hz19 (fun q => ?_) (fun q => ?_)
          · have H := ht19 q
            refine hw_k (c := 9) (b := 1) (e := 2) (by decide +kernel) ?_
            refine hw_ld (b := 1) (e := 0) (by decide +kernel) (get_st1 (get_st1 rfl (by decide) (fun q => tg0 q.2)) (by decide) (fun q => absurd q.1 (by decide))) ?_
            refine hw_ld (b := 3) (e := 0) (by decide +kernel) get_st1e ?_
            refine hr_call (a0 := 18) (b := 136) (e := 4) (nl := 4) (As := [(0, 9), (0, v1), (0, z16)]) (R := []) 183 rfl (by decide +kernel) rfl rfl (Nat.le_of_ble_eq_true rfl) (Nat.le_of_ble_eq_true rfl) ?_
            refine hw_mono H ?_
            rintro r ψ20 y20 ⟨hyx, z20, hr, H⟩
            subst hyx
            subst hr
            refine ⟨hne0, ?_⟩
            show hw sc (d + 3) 138 122 (jm_st1 (jm_st1 [(0, (2, 183)), (1, (0, v1))] 2 (0, z3)) 3 (0, z16)) [(0, z20)] ψ20 y20 Q
            exact hw_ret (a0 := 0) (e := 1) (by decide +kernel) (Or.inr ⟨rfl, H.1⟩) H.2
          · have H := hf19 q
            refine hw_k (c := 7) (b := 1) (e := 2) (by decide +kernel) ?_
            refine hw_goto (a0 := 0) (b := 0) (e := 117) (by decide +kernel) ?_
            refine hw_ld (b := 1) (e := 0) (by decide +kernel) (get_st1 (get_st1 rfl (by decide) (fun q => tg0 q.2)) (by decide) (fun q => absurd q.1 (by decide))) ?_
            refine hw_ld (b := 3) (e := 0) (by decide +kernel) get_st1e ?_
            refine hr_call (a0 := 18) (b := 136) (e := 4) (nl := 4) (As := [(0, 7), (0, v1), (0, z16)]) (R := []) 183 rfl (by decide +kernel) rfl rfl (Nat.le_of_ble_eq_true rfl) (Nat.le_of_ble_eq_true rfl) ?_
            refine hw_mono H ?_
            rintro r ψ22 y22 ⟨hyx, z22, hr, H⟩
            subst hyx
            subst hr
            refine ⟨hne0, ?_⟩
            show hw sc (d + 3) 138 122 (jm_st1 (jm_st1 [(0, (2, 183)), (1, (0, v1))] 2 (0, z3)) 3 (0, z16)) [(0, z22)] ψ22 y22 Q
            exact hw_ret (a0 := 0) (e := 1) (by decide +kernel) (Or.inr ⟨rfl, H.1⟩) H.2
        · have H := hf17 q
          refine hw_k (c := 0) (b := 0) (e := 1) (by decide +kernel) ?_
          exact hw_ret (a0 := 0) (e := 1) (by decide +kernel) (Or.inr ⟨rfl, by decide⟩) H
    · have H := hf4 q
      refine hw_ald (b := 0) (e := 0) (by decide +kernel) (get_st1 rfl (by decide) (fun q => absurd q.1 (by decide))) (by decide) ?_
      refine hr_gr (w := 1) (b := 8) (e := 0) 183 rfl (by decide +kernel) ?_
      refine hw_k (c := 9) (b := 1) (e := 2) (by decide +kernel) ?_
      refine hr_call (a0 := 11) (b := 135) (e := 2) (nl := 2) (As := [(0, 9)]) (R := []) 1 rfl (by decide +kernel) rfl rfl (Nat.le_of_ble_eq_true rfl) (Nat.le_of_ble_eq_true rfl) ?_
      refine hw_mono H ?_
      rintro r ψ25 y25 ⟨hyx, hψx, z25, hr, H⟩
      subst hyx
      subst hψx
      subst hr
      refine ⟨hne0, ?_⟩
      show hw sc (d + 3) 138 51 (jm_st1 [(0, (2, 183)), (1, (0, v1))] 2 (0, z3)) [(0, z25)] φ y25 Q
      obtain ⟨hz26, ht26, hf26⟩ := H
      refine hw_if (a0 := 0) (b := 1) (e := 63) (by decide +kernel) hz26 (fun q => ?_) (fun q => ?_)
      · have H := ht26 q
        refine hw_ald (b := 0) (e := 0) (by decide +kernel) (get_st1 rfl (by decide) (fun q => absurd q.1 (by decide))) (by decide) ?_
        refine hr_gr (w := 1) (b := 8) (e := 0) 183 rfl (by decide +kernel) ?_
        refine hr_call (a0 := 11) (b := 29) (e := 1) (nl := 1) (As := []) (R := []) 1 rfl (by decide +kernel) rfl rfl (Nat.le_of_ble_eq_true rfl) (Nat.le_of_ble_eq_true rfl) ?_
        refine hw_mono H ?_
        rintro r ψ27 y27 ⟨hyx, hr, H⟩
        subst hyx
        subst hr
        refine ⟨hnen, ?_⟩
        show hw sc (d + 3) 138 70 (jm_st1 [(0, (2, 183)), (1, (0, v1))] 2 (0, z3)) [] ψ27 y27 Q
        refine hw_ald (b := 0) (e := 0) (by decide +kernel) (get_st1 rfl (by decide) (fun q => absurd q.1 (by decide))) (by decide) ?_
        refine hr_gr (w := 1) (b := 8) (e := 0) 183 rfl (by decide +kernel) ?_
        refine hw_ald (b := 0) (e := 0) (by decide +kernel) (get_st1 rfl (by decide) (fun q => absurd q.1 (by decide))) (by decide) ?_
        refine hr_gr (w := 5) (b := 8) (e := 1) 183 rfl (by decide +kernel) ?_
        refine hw_ld (b := 2) (e := 0) (by decide +kernel) get_st1e ?_
        obtain ⟨hz28, ht28, hf28⟩ := H
        refine hw_if (a0 := 0) (b := 0) (e := 86) (by decide +kernel) hz28 (fun q => ?_) (fun q => ?_)
        · have H := ht28 q
          refine hw_k (c := 2) (b := 0) (e := 1) (by decide +kernel) ?_
          refine hr_call (a0 := 11) (b := 47) (e := 3) (nl := 4) (As := [(2, 5), (0, 2)]) (R := []) 1 rfl (by decide +kernel) rfl rfl (Nat.le_of_ble_eq_true rfl) (Nat.le_of_ble_eq_true rfl) ?_
          refine hw_mono H ?_
          rintro r ψ29 y29 ⟨hyx, z29, hr, H⟩
          subst hyx
          subst hr
          refine ⟨hne0, ?_⟩
          show hw sc (d + 3) 138 90 (jm_st1 [(0, (2, 183)), (1, (0, v1))] 2 (0, z3)) [(0, z29)] ψ29 y29 Q
          refine hw_st (L' := (jm_st1 (jm_st1 [(0, (2, 183)), (1, (0, v1))] 2 (0, z3)) 3 (0, z29))) (b := 3) (e := 0) (by decide +kernel) rfl ?_
          refine hw_ld (b := 3) (e := 0) (by decide +kernel) get_st1e ?_
          refine hw_k (c := (-1 : Int)) (b := 0) (e := 1) (by decide +kernel) ?_
          obtain ⟨hz30, hy30, ht30, hf30⟩ := H
          refine hw_if2 (a0 := 0) (b := 1) (e := 98) (by decide +kernel) hz30 hy30 (fun q => ?_) (fun q => ?_)
          · have H := ht30 q
            refine hw_ald (b := 0) (e := 0) (by decide +kernel) (get_st1 (get_st1 rfl (by decide) (fun q => absurd q.1 (by decide))) (by decide) (fun q => absurd q.1 (by decide))) (by decide) ?_
            refine hr_gr (w := 1) (b := 8) (e := 0) 183 rfl (by decide +kernel) ?_
            refine hr_call (a0 := 11) (b := 29) (e := 1) (nl := 1) (As := []) (R := []) 1 rfl (by decide +kernel) rfl rfl (Nat.le_of_ble_eq_true rfl) (Nat.le_of_ble_eq_true rfl) ?_
            refine hw_mono H ?_
            rintro r ψ31 y31 ⟨hyx, hr, H⟩
            subst hyx
            subst hr
            refine ⟨hnen, ?_⟩
            show hw sc (d + 3) 138 105 (jm_st1 (jm_st1 [(0, (2, 183)), (1, (0, v1))] 2 (0, z3)) 3 (0, z29)) [] ψ31 y31 Q
            refine hw_ald (b := 0) (e := 0) (by decide +kernel) (get_st1 (get_st1 rfl (by decide) (fun q => absurd q.1 (by decide))) (by decide) (fun q => absurd q.1 (by decide))) (by decide) ?_
            refine hw_ld (b := 2) (e := 0) (by decide +kernel) (get_st1 get_st1e (by decide) (fun q => tg0 q.2)) ?_
            obtain ⟨hz32, ht32, hf32⟩ := H
            refine hw_if (a0 := 0) (b := 0) (e := 115) (by decide +kernel) hz32 (fun q => ?_) (fun q => ?_)
            · have H := ht32 q
              refine hw_k (c := 9) (b := 1) (e := 2) (by decide +kernel) ?_
              refine hw_ld (b := 1) (e := 0) (by decide +kernel) (get_st1 (get_st1 rfl (by decide) (fun q => tg0 q.2)) (by decide) (fun q => absurd q.1 (by decide))) ?_
              refine hw_ld (b := 3) (e := 0) (by decide +kernel) get_st1e ?_
              refine hr_call (a0 := 18) (b := 136) (e := 4) (nl := 4) (As := [(0, 9), (0, v1), (0, z29)]) (R := []) 183 rfl (by decide +kernel) rfl rfl (Nat.le_of_ble_eq_true rfl) (Nat.le_of_ble_eq_true rfl) ?_
              refine hw_mono H ?_
              rintro r ψ33 y33 ⟨hyx, z33, hr, H⟩
              subst hyx
              subst hr
              refine ⟨hne0, ?_⟩
              show hw sc (d + 3) 138 122 (jm_st1 (jm_st1 [(0, (2, 183)), (1, (0, v1))] 2 (0, z3)) 3 (0, z29)) [(0, z33)] ψ33 y33 Q
              exact hw_ret (a0 := 0) (e := 1) (by decide +kernel) (Or.inr ⟨rfl, H.1⟩) H.2
            · have H := hf32 q
              refine hw_k (c := 7) (b := 1) (e := 2) (by decide +kernel) ?_
              refine hw_goto (a0 := 0) (b := 0) (e := 117) (by decide +kernel) ?_
              refine hw_ld (b := 1) (e := 0) (by decide +kernel) (get_st1 (get_st1 rfl (by decide) (fun q => tg0 q.2)) (by decide) (fun q => absurd q.1 (by decide))) ?_
              refine hw_ld (b := 3) (e := 0) (by decide +kernel) get_st1e ?_
              refine hr_call (a0 := 18) (b := 136) (e := 4) (nl := 4) (As := [(0, 7), (0, v1), (0, z29)]) (R := []) 183 rfl (by decide +kernel) rfl rfl (Nat.le_of_ble_eq_true rfl) (Nat.le_of_ble_eq_true rfl) ?_
              refine hw_mono H ?_
              rintro r ψ35 y35 ⟨hyx, z35, hr, H⟩
              subst hyx
              subst hr
              refine ⟨hne0, ?_⟩
              show hw sc (d + 3) 138 122 (jm_st1 (jm_st1 [(0, (2, 183)), (1, (0, v1))] 2 (0, z3)) 3 (0, z29)) [(0, z35)] ψ35 y35 Q
              exact hw_ret (a0 := 0) (e := 1) (by decide +kernel) (Or.inr ⟨rfl, H.1⟩) H.2
          · have H := hf30 q
            refine hw_k (c := 0) (b := 0) (e := 1) (by decide +kernel) ?_
            exact hw_ret (a0 := 0) (e := 1) (by decide +kernel) (Or.inr ⟨rfl, by decide⟩) H
        · have H := hf28 q
          refine hw_k (c := 1) (b := 0) (e := 1) (by decide +kernel) ?_
          refine hw_goto (a0 := 0) (b := 0) (e := 87) (by decide +kernel) ?_
          refine hr_call (a0 := 11) (b := 47) (e := 3) (nl := 4) (As := [(2, 5), (0, 1)]) (R := []) 1 rfl (by decide +kernel) rfl rfl (Nat.le_of_ble_eq_true rfl) (Nat.le_of_ble_eq_true rfl) ?_
          refine hw_mono H ?_
          rintro r ψ38 y38 ⟨hyx, z38, hr, H⟩
          subst hyx
          subst hr
          refine ⟨hne0, ?_⟩
          show hw sc (d + 3) 138 90 (jm_st1 [(0, (2, 183)), (1, (0, v1))] 2 (0, z3)) [(0, z38)] ψ38 y38 Q
          refine hw_st (L' := (jm_st1 (jm_st1 [(0, (2, 183)), (1, (0, v1))] 2 (0, z3)) 3 (0, z38))) (b := 3) (e := 0) (by decide +kernel) rfl ?_
          refine hw_ld (b := 3) (e := 0) (by decide +kernel) get_st1e ?_
          refine hw_k (c := (-1 : Int)) (b := 0) (e := 1) (by decide +kernel) ?_
          obtain ⟨hz39, hy39, ht39, hf39⟩ := H
          refine hw_if2 (a0 := 0) (b := 1) (e := 98) (by decide +kernel) hz39 hy39 (fun q => ?_) (fun q => ?_)
          · have H := ht39 q
            refine hw_ald (b := 0) (e := 0) (by decide +kernel) (get_st1 (get_st1 rfl (by decide) (fun q => absurd q.1 (by decide))) (by decide) (fun q => absurd q.1 (by decide))) (by decide) ?_
            refine hr_gr (w := 1) (b := 8) (e := 0) 183 rfl (by decide +kernel) ?_
            refine hr_call (a0 := 11) (b := 29) (e := 1) (nl := 1) (As := []) (R := []) 1 rfl (by decide +kernel) rfl rfl (Nat.le_of_ble_eq_true rfl) (Nat.le_of_ble_eq_true rfl) ?_
            refine hw_mono H ?_
            rintro r ψ40 y40 ⟨hyx, hr, H⟩
            subst hyx
            subst hr
            refine ⟨hnen, ?_⟩
            show hw sc (d + 3) 138 105 (jm_st1 (jm_st1 [(0, (2, 183)), (1, (0, v1))] 2 (0, z3)) 3 (0, z38)) [] ψ40 y40 Q
            refine hw_ald (b := 0) (e := 0) (by decide +kernel) (get_st1 (get_st1 rfl (by decide) (fun q => absurd q.1 (by decide))) (by decide) (fun q => absurd q.1 (by decide))) (by decide) ?_
            refine hw_ld (b := 2) (e := 0) (by decide +kernel) (get_st1 get_st1e (by decide) (fun q => tg0 q.2)) ?_
            obtain ⟨hz41, ht41, hf41⟩ := H
            refine hw_if (a0 := 0) (b := 0) (e := 115) (by decide +kernel) hz41 (fun q => ?_) (fun q => ?_)
            · have H := ht41 q
              refine hw_k (c := 9) (b := 1) (e := 2) (by decide +kernel) ?_
              refine hw_ld (b := 1) (e := 0) (by decide +kernel) (get_st1 (get_st1 rfl (by decide) (fun q => tg0 q.2)) (by decide) (fun q => absurd q.1 (by decide))) ?_
              refine hw_ld (b := 3) (e := 0) (by decide +kernel) get_st1e ?_
              refine hr_call (a0 := 18) (b := 136) (e := 4) (nl := 4) (As := [(0, 9), (0, v1), (0, z38)]) (R := []) 183 rfl (by decide +kernel) rfl rfl (Nat.le_of_ble_eq_true rfl) (Nat.le_of_ble_eq_true rfl) ?_
              refine hw_mono H ?_
              rintro r ψ42 y42 ⟨hyx, z42, hr, H⟩
              subst hyx
              subst hr
              refine ⟨hne0, ?_⟩
              show hw sc (d + 3) 138 122 (jm_st1 (jm_st1 [(0, (2, 183)), (1, (0, v1))] 2 (0, z3)) 3 (0, z38)) [(0, z42)] ψ42 y42 Q
              exact hw_ret (a0 := 0) (e := 1) (by decide +kernel) (Or.inr ⟨rfl, H.1⟩) H.2
            · have H := hf41 q
              refine hw_k (c := 7) (b := 1) (e := 2) (by decide +kernel) ?_
              refine hw_goto (a0 := 0) (b := 0) (e := 117) (by decide +kernel) ?_
              refine hw_ld (b := 1) (e := 0) (by decide +kernel) (get_st1 (get_st1 rfl (by decide) (fun q => tg0 q.2)) (by decide) (fun q => absurd q.1 (by decide))) ?_
              refine hw_ld (b := 3) (e := 0) (by decide +kernel) get_st1e ?_
              refine hr_call (a0 := 18) (b := 136) (e := 4) (nl := 4) (As := [(0, 7), (0, v1), (0, z38)]) (R := []) 183 rfl (by decide +kernel) rfl rfl (Nat.le_of_ble_eq_true rfl) (Nat.le_of_ble_eq_true rfl) ?_
              refine hw_mono H ?_
              rintro r ψ44 y44 ⟨hyx, z44, hr, H⟩
              subst hyx
              subst hr
              refine ⟨hne0, ?_⟩
              show hw sc (d + 3) 138 122 (jm_st1 (jm_st1 [(0, (2, 183)), (1, (0, v1))] 2 (0, z3)) 3 (0, z38)) [(0, z44)] ψ44 y44 Q
              exact hw_ret (a0 := 0) (e := 1) (by decide +kernel) (Or.inr ⟨rfl, H.1⟩) H.2
          · have H := hf39 q
            refine hw_k (c := 0) (b := 0) (e := 1) (by decide +kernel) ?_
            exact hw_ret (a0 := 0) (e := 1) (by decide +kernel) (Or.inr ⟨rfl, by decide⟩) H
      · have H := hf26 q
        refine hw_ald (b := 0) (e := 0) (by decide +kernel) (get_st1 rfl (by decide) (fun q => absurd q.1 (by decide))) (by decide) ?_
        refine hr_gr (w := 1) (b := 8) (e := 0) 183 rfl (by decide +kernel) ?_
        refine hw_k (c := 1) (b := 0) (e := 1) (by decide +kernel) ?_
        refine hr_call (a0 := 11) (b := 37) (e := 2) (nl := 2) (As := [(0, 1)]) (R := []) 1 rfl (by decide +kernel) rfl rfl (Nat.le_of_ble_eq_true rfl) (Nat.le_of_ble_eq_true rfl) ?_
        refine hw_mono H ?_
        rintro r ψ47 y47 ⟨hyx, z47, hr, H⟩
        subst hyx
        subst hr
        refine ⟨hne0, ?_⟩
        show hw sc (d + 3) 138 62 (jm_st1 [(0, (2, 183)), (1, (0, v1))] 2 (0, z3)) [(0, z47)] ψ47 y47 Q
        exact hw_ret (a0 := 0) (e := 1) (by decide +kernel) (Or.inr ⟨rfl, H.1⟩) H.2
  · have H := hf2 q
    refine hw_ald (b := 0) (e := 0) (by decide +kernel) rfl (by decide) ?_
    refine hr_gr (w := 1) (b := 8) (e := 0) 183 rfl (by decide +kernel) ?_
    refine hr_call (a0 := 11) (b := 29) (e := 1) (nl := 1) (As := []) (R := []) 1 rfl (by decide +kernel) rfl rfl (Nat.le_of_ble_eq_true rfl) (Nat.le_of_ble_eq_true rfl) ?_
    refine hw_mono H ?_
    rintro r ψ49 y49 ⟨hyx, hr, H⟩
    subst hyx
    subst hr
    refine ⟨hnen, ?_⟩
    show hw sc (d + 3) 138 19 [(0, (2, 183)), (1, (0, v1))] [] ψ49 y49 Q
    refine hw_ald (b := 0) (e := 0) (by decide +kernel) rfl (by decide) ?_
    refine hw_k (c := 8) (b := 1) (e := 2) (by decide +kernel) ?_
    refine hw_ld (b := 1) (e := 0) (by decide +kernel) rfl ?_
    refine hw_k (c := 0) (b := 0) (e := 1) (by decide +kernel) ?_
    refine hr_call (a0 := 18) (b := 136) (e := 4) (nl := 4) (As := [(0, 8), (0, v1), (0, 0)]) (R := []) 183 rfl (by decide +kernel) rfl rfl (Nat.le_of_ble_eq_true rfl) (Nat.le_of_ble_eq_true rfl) ?_
    refine hw_mono H ?_
    rintro r ψ50 y50 ⟨hyx, z50, hr, H⟩
    subst hyx
    subst hr
    refine ⟨hne0, ?_⟩
    show hw sc (d + 3) 138 27 [(0, (2, 183)), (1, (0, v1))] [(0, z50)] ψ50 y50 Q
    exact hw_ret (a0 := 0) (e := 1) (by decide +kernel) (Or.inr ⟨rfl, H.1⟩) H.2
theorem sf_138_183 {sc : List Int} {d : Nat} {φ : hf_F} {x : Nat} {Q : Option jm_V → hf_F → Nat → Prop} {v1 : Int} (hI : Inv φ) (h1a : 0 ≤ v1) (h1b : v1 ≤ 5) (hQ : ∀ (r : Int) (ψ : hf_F), Inv ψ → Fr [184, 185, 186, 2004, 2005, 2006, 2007, 2008, 2009, 2010, 184005] φ ψ → 0 ≤ r ∧ r ≤ 1 → F_BookText_readAct_183 φ v1 = (r, ψ) → Q (some (0, r)) ψ x) : hw sc (d + 3) 138 0 [(0, (2, 183)), (1, (0, v1))] [] φ x Q := by
  apply sf_138_183_v
  have e0 : F_BookText_readAct_183 φ v1 = _ := rfl
  refine sf_135_1 (φ := φ) hI (by omega) (by omega) (fun z1 hp1 hE1 => ⟨rfl, rfl, z1, rfl, ?_⟩)
  have e1 := e0.trans (bnp_e hE1)
  refine ⟨by unfold hi; omega, fun q2 => ?_, fun q2 => ?_⟩
  · skip
    have e2a := e1.trans (if_pos q2)
    refine sf_135_1 (φ := φ) hI (by omega) (by omega) (fun z3 hp3 hE3 => ⟨rfl, rfl, z3, rfl, ?_⟩)
    have e3 := e2a.trans (bnp_e hE3)
    refine ⟨by unfold hi; omega, fun q4 => ?_, fun q4 => ?_⟩
    · skip
      have e4a := e3.trans (if_pos q4)
      refine sf_29_1 (φ := φ) hI  (fun ψ5 hI5 hF5 hE5 => ⟨rfl, rfl, ?_⟩)
      have hG5 : Fr [184, 185, 186, 2004, 2005, 2006, 2007, 2008, 2009, 2010, 184005] φ ψ5 := fr_tr (fr_rf) hF5 (by decide)
      have e5 := e4a.trans (bnv_e hE5)
      refine ⟨by unfold hi; omega, fun q6 => ?_, fun q6 => ?_⟩
      · skip
        have e6a := e5.trans (if_pos q6)
        refine sf_47_1_5_k2_2 (φ := ψ5) hI5  (fun z7 ψ7 hI7 hF7 hp7 hE7 => ⟨rfl, z7, rfl, ?_⟩)
        have hG7 : Fr [184, 185, 186, 2004, 2005, 2006, 2007, 2008, 2009, 2010, 184005] φ ψ7 := fr_tr hG5 hF7 (by decide)
        have f1 := iv_at (a := 6) (k := 2) (lo := 0) (u := 8) hI5 (by decide +kernel)
        have f2 : ψ5 6 2 = φ 6 2 := (fr_at hF5 6 (by decide) 2)
        have f3 := iv_at (a := 6) (k := 2) (lo := 0) (u := 8) hI (by decide +kernel)
        have e7 := e6a.trans (bnd_e hE7)
        refine ⟨by unfold hi; omega, by unfold hi; omega, fun q8 => ?_, fun q8 => ?_⟩
        · skip
          have e8a := e7.trans (if_pos q8)
          refine sf_29_1 (φ := ψ7) hI7  (fun ψ9 hI9 hF9 hE9 => ⟨rfl, rfl, ?_⟩)
          have hG9 : Fr [184, 185, 186, 2004, 2005, 2006, 2007, 2008, 2009, 2010, 184005] φ ψ9 := fr_tr hG7 hF9 (by decide)
          have e9 := e8a.trans (bnv_e hE9)
          refine ⟨by unfold hi; omega, fun q10 => ?_, fun q10 => ?_⟩
          · skip
            have e10a := e9.trans (if_pos q10)
            refine sf_136_183 (φ := ψ9) hI9 (by omega) (by omega) (by omega) (by omega) (by omega) (by omega) (by omega) (by omega) (fun z11 ψ11 hI11 hF11 hp11 hE11 => ⟨rfl, z11, rfl, ?_⟩)
            have hG11 : Fr [184, 185, 186, 2004, 2005, 2006, 2007, 2008, 2009, 2010, 184005] φ ψ11 := fr_tr hG9 hF11 (by decide)
            have e11 := e10a.trans (bnd_e hE11)
            refine ⟨by omega, ?_⟩
            exact hQ z11 ψ11 hI11 hG11 ⟨by omega, by omega⟩ e11
          · skip
            have e10b := e9.trans (if_neg q10)
            refine sf_136_183 (φ := ψ9) hI9 (by omega) (by omega) (by omega) (by omega) (by omega) (by omega) (by omega) (by omega) (fun z13 ψ13 hI13 hF13 hp13 hE13 => ⟨rfl, z13, rfl, ?_⟩)
            have hG13 : Fr [184, 185, 186, 2004, 2005, 2006, 2007, 2008, 2009, 2010, 184005] φ ψ13 := fr_tr hG9 hF13 (by decide)
            have e13 := e10b.trans (bnd_e hE13)
            refine ⟨by omega, ?_⟩
            exact hQ z13 ψ13 hI13 hG13 ⟨by omega, by omega⟩ e13
        · skip
          have e8b := e7.trans (if_neg q8)
          exact hQ 0 ψ7 hI7 hG7 ⟨by omega, by omega⟩ e8b
      · skip
        have e6b := e5.trans (if_neg q6)
        refine sf_47_1_5_k2_1 (φ := ψ5) hI5  (fun z16 ψ16 hI16 hF16 hp16 hE16 => ⟨rfl, z16, rfl, ?_⟩)
        have hG16 : Fr [184, 185, 186, 2004, 2005, 2006, 2007, 2008, 2009, 2010, 184005] φ ψ16 := fr_tr hG5 hF16 (by decide)
        have f4 := iv_at (a := 6) (k := 1) (lo := 0) (u := 8) hI5 (by decide +kernel)
        have f5 : ψ5 6 1 = φ 6 1 := (fr_at hF5 6 (by decide) 1)
        have f6 := iv_at (a := 6) (k := 1) (lo := 0) (u := 8) hI (by decide +kernel)
        have e16 := e6b.trans (bnd_e hE16)
        refine ⟨by unfold hi; omega, by unfold hi; omega, fun q17 => ?_, fun q17 => ?_⟩
        · skip
          have e17a := e16.trans (if_pos q17)
          refine sf_29_1 (φ := ψ16) hI16  (fun ψ18 hI18 hF18 hE18 => ⟨rfl, rfl, ?_⟩)
          have hG18 : Fr [184, 185, 186, 2004, 2005, 2006, 2007, 2008, 2009, 2010, 184005] φ ψ18 := fr_tr hG16 hF18 (by decide)
          have e18 := e17a.trans (bnv_e hE18)
          refine ⟨by unfold hi; omega, fun q19 => ?_, fun q19 => ?_⟩
          · skip
            have e19a := e18.trans (if_pos q19)
            refine sf_136_183 (φ := ψ18) hI18 (by omega) (by omega) (by omega) (by omega) (by omega) (by omega) (by omega) (by omega) (fun z20 ψ20 hI20 hF20 hp20 hE20 => ⟨rfl, z20, rfl, ?_⟩)
            have hG20 : Fr [184, 185, 186, 2004, 2005, 2006, 2007, 2008, 2009, 2010, 184005] φ ψ20 := fr_tr hG18 hF20 (by decide)
            have e20 := e19a.trans (bnd_e hE20)
            refine ⟨by omega, ?_⟩
            exact hQ z20 ψ20 hI20 hG20 ⟨by omega, by omega⟩ e20
          · skip
            have e19b := e18.trans (if_neg q19)
            refine sf_136_183 (φ := ψ18) hI18 (by omega) (by omega) (by omega) (by omega) (by omega) (by omega) (by omega) (by omega) (fun z22 ψ22 hI22 hF22 hp22 hE22 => ⟨rfl, z22, rfl, ?_⟩)
            have hG22 : Fr [184, 185, 186, 2004, 2005, 2006, 2007, 2008, 2009, 2010, 184005] φ ψ22 := fr_tr hG18 hF22 (by decide)
            have e22 := e19b.trans (bnd_e hE22)
            refine ⟨by omega, ?_⟩
            exact hQ z22 ψ22 hI22 hG22 ⟨by omega, by omega⟩ e22
        · skip
          have e17b := e16.trans (if_neg q17)
          exact hQ 0 ψ16 hI16 hG16 ⟨by omega, by omega⟩ e17b
    · skip
      have e4b := e3.trans (if_neg q4)
      refine sf_135_1 (φ := φ) hI (by omega) (by omega) (fun z25 hp25 hE25 => ⟨rfl, rfl, z25, rfl, ?_⟩)
      have e25 := e4b.trans (bnp_e hE25)
      refine ⟨by unfold hi; omega, fun q26 => ?_, fun q26 => ?_⟩
      · skip
        have e26a := e25.trans (if_pos q26)
        refine sf_29_1 (φ := φ) hI  (fun ψ27 hI27 hF27 hE27 => ⟨rfl, rfl, ?_⟩)
        have hG27 : Fr [184, 185, 186, 2004, 2005, 2006, 2007, 2008, 2009, 2010, 184005] φ ψ27 := fr_tr (fr_rf) hF27 (by decide)
        have e27 := e26a.trans (bnv_e hE27)
        refine ⟨by unfold hi; omega, fun q28 => ?_, fun q28 => ?_⟩
        · skip
          have e28a := e27.trans (if_pos q28)
          refine sf_47_1_5_k2_2 (φ := ψ27) hI27  (fun z29 ψ29 hI29 hF29 hp29 hE29 => ⟨rfl, z29, rfl, ?_⟩)
          have hG29 : Fr [184, 185, 186, 2004, 2005, 2006, 2007, 2008, 2009, 2010, 184005] φ ψ29 := fr_tr hG27 hF29 (by decide)
          have f7 := iv_at (a := 6) (k := 2) (lo := 0) (u := 8) hI27 (by decide +kernel)
          have f8 : ψ27 6 2 = φ 6 2 := (fr_at hF27 6 (by decide) 2)
          have f9 := iv_at (a := 6) (k := 2) (lo := 0) (u := 8) hI (by decide +kernel)
          have e29 := e28a.trans (bnd_e hE29)
          refine ⟨by unfold hi; omega, by unfold hi; omega, fun q30 => ?_, fun q30 => ?_⟩
          · skip
            have e30a := e29.trans (if_pos q30)
            refine sf_29_1 (φ := ψ29) hI29  (fun ψ31 hI31 hF31 hE31 => ⟨rfl, rfl, ?_⟩)
            have hG31 : Fr [184, 185, 186, 2004, 2005, 2006, 2007, 2008, 2009, 2010, 184005] φ ψ31 := fr_tr hG29 hF31 (by decide)
            have e31 := e30a.trans (bnv_e hE31)
            refine ⟨by unfold hi; omega, fun q32 => ?_, fun q32 => ?_⟩
            · skip
              have e32a := e31.trans (if_pos q32)
              refine sf_136_183 (φ := ψ31) hI31 (by omega) (by omega) (by omega) (by omega) (by omega) (by omega) (by omega) (by omega) (fun z33 ψ33 hI33 hF33 hp33 hE33 => ⟨rfl, z33, rfl, ?_⟩)
              have hG33 : Fr [184, 185, 186, 2004, 2005, 2006, 2007, 2008, 2009, 2010, 184005] φ ψ33 := fr_tr hG31 hF33 (by decide)
              have e33 := e32a.trans (bnd_e hE33)
              refine ⟨by omega, ?_⟩
              exact hQ z33 ψ33 hI33 hG33 ⟨by omega, by omega⟩ e33
            · skip
              have e32b := e31.trans (if_neg q32)
              refine sf_136_183 (φ := ψ31) hI31 (by omega) (by omega) (by omega) (by omega) (by omega) (by omega) (by omega) (by omega) (fun z35 ψ35 hI35 hF35 hp35 hE35 => ⟨rfl, z35, rfl, ?_⟩)
              have hG35 : Fr [184, 185, 186, 2004, 2005, 2006, 2007, 2008, 2009, 2010, 184005] φ ψ35 := fr_tr hG31 hF35 (by decide)
              have e35 := e32b.trans (bnd_e hE35)
              refine ⟨by omega, ?_⟩
              exact hQ z35 ψ35 hI35 hG35 ⟨by omega, by omega⟩ e35
          · skip
            have e30b := e29.trans (if_neg q30)
            exact hQ 0 ψ29 hI29 hG29 ⟨by omega, by omega⟩ e30b
        · skip
          have e28b := e27.trans (if_neg q28)
          refine sf_47_1_5_k2_1 (φ := ψ27) hI27  (fun z38 ψ38 hI38 hF38 hp38 hE38 => ⟨rfl, z38, rfl, ?_⟩)
          have hG38 : Fr [184, 185, 186, 2004, 2005, 2006, 2007, 2008, 2009, 2010, 184005] φ ψ38 := fr_tr hG27 hF38 (by decide)
          have f10 := iv_at (a := 6) (k := 1) (lo := 0) (u := 8) hI27 (by decide +kernel)
          have f11 : ψ27 6 1 = φ 6 1 := (fr_at hF27 6 (by decide) 1)
          have f12 := iv_at (a := 6) (k := 1) (lo := 0) (u := 8) hI (by decide +kernel)
          have e38 := e28b.trans (bnd_e hE38)
          refine ⟨by unfold hi; omega, by unfold hi; omega, fun q39 => ?_, fun q39 => ?_⟩
          · skip
            have e39a := e38.trans (if_pos q39)
            refine sf_29_1 (φ := ψ38) hI38  (fun ψ40 hI40 hF40 hE40 => ⟨rfl, rfl, ?_⟩)
            have hG40 : Fr [184, 185, 186, 2004, 2005, 2006, 2007, 2008, 2009, 2010, 184005] φ ψ40 := fr_tr hG38 hF40 (by decide)
            have e40 := e39a.trans (bnv_e hE40)
            refine ⟨by unfold hi; omega, fun q41 => ?_, fun q41 => ?_⟩
            · skip
              have e41a := e40.trans (if_pos q41)
              refine sf_136_183 (φ := ψ40) hI40 (by omega) (by omega) (by omega) (by omega) (by omega) (by omega) (by omega) (by omega) (fun z42 ψ42 hI42 hF42 hp42 hE42 => ⟨rfl, z42, rfl, ?_⟩)
              have hG42 : Fr [184, 185, 186, 2004, 2005, 2006, 2007, 2008, 2009, 2010, 184005] φ ψ42 := fr_tr hG40 hF42 (by decide)
              have e42 := e41a.trans (bnd_e hE42)
              refine ⟨by omega, ?_⟩
              exact hQ z42 ψ42 hI42 hG42 ⟨by omega, by omega⟩ e42
            · skip
              have e41b := e40.trans (if_neg q41)
              refine sf_136_183 (φ := ψ40) hI40 (by omega) (by omega) (by omega) (by omega) (by omega) (by omega) (by omega) (by omega) (fun z44 ψ44 hI44 hF44 hp44 hE44 => ⟨rfl, z44, rfl, ?_⟩)
              have hG44 : Fr [184, 185, 186, 2004, 2005, 2006, 2007, 2008, 2009, 2010, 184005] φ ψ44 := fr_tr hG40 hF44 (by decide)
              have e44 := e41b.trans (bnd_e hE44)
              refine ⟨by omega, ?_⟩
              exact hQ z44 ψ44 hI44 hG44 ⟨by omega, by omega⟩ e44
          · skip
            have e39b := e38.trans (if_neg q39)
            exact hQ 0 ψ38 hI38 hG38 ⟨by omega, by omega⟩ e39b
      · skip
        have e26b := e25.trans (if_neg q26)
        refine sf_37_1 (φ := φ) hI (by omega) (by omega) (fun z47 ψ47 hI47 hF47 hp47 hE47 => ⟨rfl, z47, rfl, ?_⟩)
        have hG47 : Fr [184, 185, 186, 2004, 2005, 2006, 2007, 2008, 2009, 2010, 184005] φ ψ47 := fr_tr (fr_rf) hF47 (by decide)
        have e47 := e26b.trans (bnd_e hE47)
        refine ⟨by omega, ?_⟩
        exact hQ z47 ψ47 hI47 hG47 ⟨by omega, by omega⟩ e47
  · skip
    have e2b := e1.trans (if_neg q2)
    refine sf_29_1 (φ := φ) hI  (fun ψ49 hI49 hF49 hE49 => ⟨rfl, rfl, ?_⟩)
    have hG49 : Fr [184, 185, 186, 2004, 2005, 2006, 2007, 2008, 2009, 2010, 184005] φ ψ49 := fr_tr (fr_rf) hF49 (by decide)
    have e49 := e2b.trans (bnv_e hE49)
    refine sf_136_183 (φ := ψ49) hI49 (by omega) (by omega) (by omega) (by omega) (by omega) (by omega) (by omega) (by omega) (fun z50 ψ50 hI50 hF50 hp50 hE50 => ⟨rfl, z50, rfl, ?_⟩)
    have hG50 : Fr [184, 185, 186, 2004, 2005, 2006, 2007, 2008, 2009, 2010, 184005] φ ψ50 := fr_tr hG49 hF50 (by decide)
    have e50 := e49.trans (bnd_e hE50)
    refine ⟨by omega, ?_⟩
    exact hQ z50 ψ50 hI50 hG50 ⟨by omega, by omega⟩ e50
theorem sf_137_183_v {sc : List Int} {d : Nat} {φ : hf_F} {x : Nat} {Q : Option jm_V → hf_F → Nat → Prop} 
    (H : hw sc (d + 2) 43 0 [(0, (2, 1)), (1, (0, 1)), (2, (0, 60))] [] φ x (fun r ψ1 y1 => y1 = x ∧ (∃ z1 : Int, r = some (0, z1) ∧ (hi z1 ∧ hi (-1 : Int) ∧ (¬ z1 = (-1 : Int) → hw sc (d + 2) 29 0 [(0, (2, 1))] [] ψ1 x (fun r ψ3 y3 => y3 = x ∧ (r = none ∧ (hw sc (d + 2) 136 0 [(0, (2, 183)), (1, (0, 11)), (2, (0, (-1 : Int))), (3, (0, z1))] [] ψ3 x (fun r ψ4 y4 => y4 = x ∧ (∃ z4 : Int, r = some (0, z4) ∧ ((z4 = 0 ∨ z4 = 1) ∧ Q (some (0, z4)) ψ4 x))))))) ∧ (¬ (¬ z1 = (-1 : Int)) → Q (some (0, 0)) ψ1 x))))) :
    hw sc (d + 3) 137 0 [(0, (2, 183))] [] φ x Q := by
  refine hw_ald (b := 0) (e := 0) (by decide +kernel) rfl (by decide) ?_
  refine hr_gr (w := 1) (b := 8) (e := 0) 183 rfl (by decide +kernel) ?_
  refine hw_k (c := 1) (b := 0) (e := 1) (by decide +kernel) ?_
  refine hw_k (c := 60) (b := 1) (e := 2) (by decide +kernel) ?_
  refine hr_call (a0 := 11) (b := 43) (e := 3) (nl := 3) (As := [(0, 1), (0, 60)]) (R := []) 1 rfl (by decide +kernel) rfl rfl (Nat.le_of_ble_eq_true rfl) (Nat.le_of_ble_eq_true rfl) ?_
  refine hw_mono H ?_
  rintro r ψ1 y1 ⟨hyx, z1, hr, H⟩
  subst hyx
  subst hr
  refine ⟨hne0, ?_⟩
  show hw sc (d + 3) 137 10 [(0, (2, 183))] [(0, z1)] ψ1 y1 Q
  refine hw_st (L' := (jm_st1 [(0, (2, 183))] 1 (0, z1))) (b := 1) (e := 0) (by decide +kernel) rfl ?_
  refine hw_ld (b := 1) (e := 0) (by decide +kernel) get_st1e ?_
  refine hw_k (c := (-1 : Int)) (b := 0) (e := 1) (by decide +kernel) ?_
  obtain ⟨hz2, hy2, ht2, hf2⟩ := H
  refine hw_if2 (a0 := 0) (b := 1) (e := 18) (by decide +kernel) hz2 hy2 (fun q => ?_) (fun q => ?_)
  · have H := ht2 q
    refine hw_ald (b := 0) (e := 0) (by decide +kernel) (get_st1 rfl (by decide) (fun q => tg2 q.2)) (by decide) ?_
    refine hr_gr (w := 1) (b := 8) (e := 0) 183 rfl (by decide +kernel) ?_
    refine hr_call (a0 := 11) (b := 29) (e := 1) (nl := 1) (As := []) (R := []) 1 rfl (by decide +kernel) rfl rfl (Nat.le_of_ble_eq_true rfl) (Nat.le_of_ble_eq_true rfl) ?_
    refine hw_mono H ?_
    rintro r ψ3 y3 ⟨hyx, hr, H⟩
    subst hyx
    subst hr
    refine ⟨hnen, ?_⟩
    show hw sc (d + 3) 137 25 (jm_st1 [(0, (2, 183))] 1 (0, z1)) [] ψ3 y3 Q
    refine hw_ald (b := 0) (e := 0) (by decide +kernel) (get_st1 rfl (by decide) (fun q => tg2 q.2)) (by decide) ?_
    refine hw_k (c := 11) (b := 1) (e := 2) (by decide +kernel) ?_
    refine hw_k (c := (-1 : Int)) (b := 0) (e := 1) (by decide +kernel) ?_
    refine hw_ld (b := 1) (e := 0) (by decide +kernel) get_st1e ?_
    refine hr_call (a0 := 18) (b := 136) (e := 4) (nl := 4) (As := [(0, 11), (0, (-1 : Int)), (0, z1)]) (R := []) 183 rfl (by decide +kernel) rfl rfl (Nat.le_of_ble_eq_true rfl) (Nat.le_of_ble_eq_true rfl) ?_
    refine hw_mono H ?_
    rintro r ψ4 y4 ⟨hyx, z4, hr, H⟩
    subst hyx
    subst hr
    refine ⟨hne0, ?_⟩
    show hw sc (d + 3) 137 33 (jm_st1 [(0, (2, 183))] 1 (0, z1)) [(0, z4)] ψ4 y4 Q
    exact hw_ret (a0 := 0) (e := 1) (by decide +kernel) (Or.inr ⟨rfl, H.1⟩) H.2
  · have H := hf2 q
    refine hw_k (c := 0) (b := 0) (e := 1) (by decide +kernel) ?_
    exact hw_ret (a0 := 0) (e := 1) (by decide +kernel) (Or.inr ⟨rfl, by decide⟩) H
theorem sf_137_183 {sc : List Int} {d : Nat} {φ : hf_F} {x : Nat} {Q : Option jm_V → hf_F → Nat → Prop}  (hI : Inv φ)  (hQ : ∀ (r : Int) (ψ : hf_F), Inv ψ → Fr [184, 185, 186, 2004, 2005, 2006, 2007, 2008, 2009, 2010, 184005] φ ψ → 0 ≤ r ∧ r ≤ 1 → F_BookText_readTicks_183 φ = (r, ψ) → Q (some (0, r)) ψ x) : hw sc (d + 3) 137 0 [(0, (2, 183))] [] φ x Q := by
  apply sf_137_183_v
  have e0 : F_BookText_readTicks_183 φ = _ := rfl
  refine sf_43_1 (φ := φ) hI (by omega) (by omega) (by omega) (by omega) (fun z1 ψ1 hI1 hF1 hp1 hE1 => ⟨rfl, z1, rfl, ?_⟩)
  have hG1 : Fr [184, 185, 186, 2004, 2005, 2006, 2007, 2008, 2009, 2010, 184005] φ ψ1 := fr_tr (fr_rf) hF1 (by decide)
  have e1 := e0.trans (bnd_e hE1)
  refine ⟨by unfold hi; omega, by unfold hi; omega, fun q2 => ?_, fun q2 => ?_⟩
  · skip
    have e2a := e1.trans (if_pos q2)
    refine sf_29_1 (φ := ψ1) hI1  (fun ψ3 hI3 hF3 hE3 => ⟨rfl, rfl, ?_⟩)
    have hG3 : Fr [184, 185, 186, 2004, 2005, 2006, 2007, 2008, 2009, 2010, 184005] φ ψ3 := fr_tr hG1 hF3 (by decide)
    have e3 := e2a.trans (bnv_e hE3)
    refine sf_136_183 (φ := ψ3) hI3 (by omega) (by omega) (by omega) (by omega) (by omega) (by omega) (by omega) (by omega) (fun z4 ψ4 hI4 hF4 hp4 hE4 => ⟨rfl, z4, rfl, ?_⟩)
    have hG4 : Fr [184, 185, 186, 2004, 2005, 2006, 2007, 2008, 2009, 2010, 184005] φ ψ4 := fr_tr hG3 hF4 (by decide)
    have e4 := e3.trans (bnd_e hE4)
    refine ⟨by omega, ?_⟩
    exact hQ z4 ψ4 hI4 hG4 ⟨by omega, by omega⟩ e4
  · skip
    have e2b := e1.trans (if_neg q2)
    exact hQ 0 ψ1 hI1 hG1 ⟨by omega, by omega⟩ e2b
theorem sf_42_5_k1_3_v3 {sc : List Int} {d : Nat} {φ : hf_F} {x : Nat} {Q : Option jm_V → hf_F → Nat → Prop} {L : jm_L} {l2 l4 : Int} (g0 : jm_get L 0 = some (2, 5)) (g1 : jm_get L 1 = some (0, 3)) (g2 : jm_get L 2 = some (1, l2)) (g4 : jm_get L 4 = some (0, l4))
    (H : hi l4 ∧ hi (φ 6 3) ∧ ((φ 6 3) ≤ l4 → Q (some (0, (-1 : Int))) φ x) ∧ (¬ (φ 6 3) ≤ l4 → 0 ≤ (24 + l4) ∧ (24 + l4) < 40 ∧ (hi (jm_cmp (φ 7 ((24 + l4).toNat)) l2) ∧ (¬ (jm_cmp (φ 7 ((24 + l4).toNat)) l2) = 0 → hw sc d 42 3 (jm_st1 L 4 (0, l4 + 1)) [] φ x Q) ∧ (¬ (¬ (jm_cmp (φ 7 ((24 + l4).toNat)) l2) = 0) → Q (some (0, l4)) φ x)))) :
    hw sc d 42 3 L [] φ x Q := by
  refine hw_ld (b := 4) (e := 1) (by decide +kernel) g4 ?_
  refine hw_ald (b := 0) (e := 0) (by decide +kernel) g0 (by decide) ?_
  refine hr_gr (w := 6) (b := 3) (e := 0) 5 rfl (by decide +kernel) ?_
  refine hw_ld (b := 1) (e := 0) (by decide +kernel) g1 ?_
  refine hr_al (b := 0) (a0 := 0) (e := 0) (n := 5) (w := φ 6 3) 6 rfl (by decide +kernel) (by decide) (by decide) (by decide) rfl ?_
  obtain ⟨hz1, hy1, ht1, hf1⟩ := H
  refine hw_if2 (a0 := 0) (b := 3) (e := 40) (by decide +kernel) hz1 hy1 (fun q => ?_) (fun q => ?_)
  · have H := ht1 q
    refine hw_k (c := (-1 : Int)) (b := 0) (e := 1) (by decide +kernel) ?_
    exact hw_ret (a0 := 0) (e := 0) (by decide +kernel) (Or.inl rfl) H
  · have H := hf1 q
    refine hw_ald (b := 0) (e := 0) (by decide +kernel) g0 (by decide) ?_
    refine hr_gr (w := 7) (b := 3) (e := 1) 5 rfl (by decide +kernel) ?_
    refine hw_ld (b := 1) (e := 0) (by decide +kernel) g1 ?_
    refine hw_k (c := 8) (b := 1) (e := 2) (by decide +kernel) ?_
    refine hw_bin (w := 24) (a0 := 0) (b := 2) (e := 0) (by decide +kernel) rfl ?_
    refine hw_ld (b := 4) (e := 1) (by decide +kernel) g4 ?_
    refine hw_bin (w := 24 + l4) (a0 := 0) (b := 0) (e := 0) (by decide +kernel) rfl ?_
    obtain ⟨hl3, hu3, H⟩ := H
    refine hr_all (a0 := 0) (e := 0) (n := 40) (w := φ 7 ((24 + l4).toNat)) 7 rfl (by decide +kernel) hl3 hu3 rfl ?_
    refine hw_lld (b := 2) (e := 0) (by decide +kernel) g2 ?_
    refine hw_lcmp (w := jm_cmp (φ 7 ((24 + l4).toNat)) l2) (a0 := 0) (b := 0) (e := 0) (by decide +kernel) rfl ?_
    obtain ⟨hz4, ht4, hf4⟩ := H
    refine hw_if (a0 := 0) (b := 1) (e := 34) (by decide +kernel) hz4 (fun q => ?_) (fun q => ?_)
    · have H := ht4 q
      refine hw_inc (L' := (jm_st1 L 4 (0, l4 + 1))) (c := 1) (b := 4) (e := 0) (by decide +kernel) g4 rfl ?_
      refine hw_goto (a0 := 0) (b := 0) (e := 3) (by decide +kernel) ?_
      exact H
    · have H := hf4 q
      refine hw_ld (b := 4) (e := 1) (by decide +kernel) g4 ?_
      exact hw_ret (a0 := 0) (e := 0) (by decide +kernel) (Or.inl rfl) H
theorem sf_42_5_k1_3_l3 {sc : List Int} {d x : Nat} {Q : Option jm_V → hf_F → Nat → Prop} : ∀ (n : Nat) (φ : hf_F) (L : jm_L) (l2 l4 : Int), jm_get L 0 = some (2, 5) → jm_get L 1 = some (0, 3) → jm_get L 2 = some (1, l2) → jm_get L 4 = some (0, l4) → Inv φ → 8 - l4 < (n : Int) → 0 ≤ l4 → l4 ≤ 8 → (∀ (r : Int), (-1 : Int) ≤ r ∧ r ≤ 7 ∧ (r = -1 ∨ (0 ≤ r ∧ r < φ 6 3 ∧ φ 6 3 ≤ 6)) → F_Plan_numberOf_5_k1_3_l3 n φ l2 l4 = r → Q (some (0, r)) φ x) → hw sc d 42 3 L [] φ x Q := by
  intro n
  induction n with
  | zero =>
    intro φ L l2 l4 g0 g1 g2 g4 hI hM b4a b4b hQ
    exfalso
    omega
  | succ n ih =>
    intro φ L l2 l4 g0 g1 g2 g4 hI hM b4a b4b hQ
    refine sf_42_5_k1_3_v3 g0 g1 g2 g4 ?_
    have e0 := F_Plan_numberOf_5_k1_3_l3_s (φ := φ) (l2 := l2) (l4 := l4) n
    have f1 := iv_at (a := 6) (k := 3) (lo := 0) (u := 6) hI (by decide +kernel)
    refine ⟨by unfold hi; omega, by unfold hi; omega, fun q1 => ?_, fun q1 => ?_⟩
    · skip
      have e1a := e0.trans (if_pos q1)
      exact hQ (-1 : Int) ⟨by omega, by omega, by omega⟩ e1a
    · skip
      have e1b := e0.trans (if_neg q1)
      refine ⟨by omega, by omega, ?_⟩
      have f2 := hr_cmp (φ 7 ((24 + l4).toNat)) l2
      refine ⟨by unfold hi; omega, fun q4 => ?_, fun q4 => ?_⟩
      · skip
        have e4a := e1b.trans (if_pos q4)
        exact ih φ (jm_st1 L 4 (0, l4 + 1)) l2 (l4 + 1) (get_st1 g0 (by decide) (fun q => absurd q.1 (by decide))) (get_st1 g1 (by decide) (fun q => absurd q.1 (by decide))) (get_st1 g2 (by decide) (fun q => absurd q.1 (by decide))) get_st1e hI (by omega) (by omega) (by omega) (fun rr hpχ hEχ => hQ rr hpχ (e4a.trans hEχ))
      · skip
        have e4b := e1b.trans (if_neg q4)
        exact hQ l4 ⟨by omega, by omega, by omega⟩ e4b
theorem sf_42_5_k1_3_v {sc : List Int} {d : Nat} {φ : hf_F} {x : Nat} {Q : Option jm_V → hf_F → Nat → Prop} {v2 : Int}
    (H : hw sc d 42 3 (jm_st1 [(0, (2, 5)), (1, (0, 3)), (2, (1, v2))] 4 (0, 0)) [] φ x Q) :
    hw sc d 42 0 [(0, (2, 5)), (1, (0, 3)), (2, (1, v2))] [] φ x Q := by
  refine hw_k (c := 0) (b := 0) (e := 1) (by decide +kernel) ?_
  refine hw_st (L' := (jm_st1 [(0, (2, 5)), (1, (0, 3)), (2, (1, v2))] 4 (0, 0))) (b := 4) (e := 1) (by decide +kernel) rfl ?_
  exact H
theorem sf_42_5_k1_3 {sc : List Int} {d : Nat} {φ : hf_F} {x : Nat} {Q : Option jm_V → hf_F → Nat → Prop} {v2 : Int} (hI : Inv φ)  (hQ : ∀ (r : Int), (-1 : Int) ≤ r ∧ r ≤ 7 ∧ (r = -1 ∨ (0 ≤ r ∧ r < φ 6 3 ∧ φ 6 3 ≤ 6)) → F_Plan_numberOf_5_k1_3 φ v2 = r → Q (some (0, r)) φ x) : hw sc d 42 0 [(0, (2, 5)), (1, (0, 3)), (2, (1, v2))] [] φ x Q := by
  apply sf_42_5_k1_3_v
  have e0 : F_Plan_numberOf_5_k1_3 φ v2 = _ := rfl
  exact sf_42_5_k1_3_l3 ((8 - 0 : Int).toNat + 1) φ (jm_st1 [(0, (2, 5)), (1, (0, 3)), (2, (1, v2))] 4 (0, 0)) v2 0 (get_st1 rfl (by decide) (fun q => absurd q.1 (by decide))) (get_st1 rfl (by decide) (fun q => absurd q.1 (by decide))) (get_st1 rfl (by decide) (fun q => absurd q.1 (by decide))) get_st1e hI (by omega) (by omega) (by omega) (fun rr hpχ hEχ => hQ rr hpχ (e0.trans hEχ))
theorem sf_47_1_5_k2_3_v {sc : List Int} {d : Nat} {φ : hf_F} {x : Nat} {Q : Option jm_V → hf_F → Nat → Prop} 
    (H : hi (φ 1 5) ∧ hi 2 ∧ ((φ 1 5) = 2 → hw sc d 42 0 [(0, (2, 5)), (1, (0, 3)), (2, (1, φ 1 8))] [] φ x (fun r ψ2 y2 => y2 = x ∧ φ = ψ2 ∧ (∃ z2 : Int, r = some (0, z2) ∧ (hi z2 ∧ hi (-1 : Int) ∧ (¬ z2 = (-1 : Int) → Q (some (0, z2)) φ x) ∧ (¬ (¬ z2 = (-1 : Int)) → hw sc d 37 0 [(0, (2, 1)), (1, (0, 3))] [] φ x (fun r ψ5 y5 => y5 = x ∧ (∃ z5 : Int, r = some (0, z5) ∧ (Q (some (0, z2)) ψ5 x)))))))) ∧ (¬ (φ 1 5) = 2 → hw sc d 37 0 [(0, (2, 1)), (1, (0, 1))] [] φ x (fun r ψ7 y7 => y7 = x ∧ (∃ z7 : Int, r = some (0, z7) ∧ (Q (some (0, (-1 : Int))) ψ7 x))))) :
    hw sc (d + 1) 47 0 [(0, (2, 1)), (1, (2, 5)), (2, (0, 3))] [] φ x Q := by
  refine hw_ald (b := 0) (e := 0) (by decide +kernel) rfl (by decide) ?_
  refine hr_gi (w := φ 1 5) (b := 1) (e := 5) 1 rfl (by decide +kernel) rfl ?_
  refine hw_k (c := 2) (b := 0) (e := 1) (by decide +kernel) ?_
  obtain ⟨hz1, hy1, ht1, hf1⟩ := H
  refine hw_if2 (a0 := 0) (b := 0) (e := 16) (by decide +kernel) hz1 hy1 (fun q => ?_) (fun q => ?_)
  · have H := ht1 q
    refine hw_ald (b := 1) (e := 0) (by decide +kernel) rfl (by decide) ?_
    refine hw_ld (b := 2) (e := 0) (by decide +kernel) rfl ?_
    refine hw_ald (b := 0) (e := 0) (by decide +kernel) rfl (by decide) ?_
    refine hr_gl (w := φ 1 8) (b := 1) (e := 8) 1 rfl (by decide +kernel) rfl ?_
    refine hr_call (a0 := 13) (b := 42) (e := 3) (nl := 5) (As := [(0, 3), (1, φ 1 8)]) (R := []) 5 rfl (by decide +kernel) rfl rfl (Nat.le_of_ble_eq_true rfl) (Nat.le_of_ble_eq_true rfl) ?_
    refine hw_mono H ?_
    rintro r ψ2 y2 ⟨hyx, hψx, z2, hr, H⟩
    subst hyx
    subst hψx
    subst hr
    refine ⟨hne0, ?_⟩
    show hw sc (d + 1) 47 25 [(0, (2, 1)), (1, (2, 5)), (2, (0, 3))] [(0, z2)] φ y2 Q
    refine hw_st (L' := (jm_st1 [(0, (2, 1)), (1, (2, 5)), (2, (0, 3))] 3 (0, z2))) (b := 3) (e := 0) (by decide +kernel) rfl ?_
    refine hw_ld (b := 3) (e := 0) (by decide +kernel) get_st1e ?_
    refine hw_k (c := (-1 : Int)) (b := 0) (e := 1) (by decide +kernel) ?_
    obtain ⟨hz3, hy3, ht3, hf3⟩ := H
    refine hw_if2 (a0 := 0) (b := 1) (e := 37) (by decide +kernel) hz3 hy3 (fun q => ?_) (fun q => ?_)
    · have H := ht3 q
      refine hw_ld (b := 3) (e := 0) (by decide +kernel) get_st1e ?_
      exact hw_ret (a0 := 0) (e := 0) (by decide +kernel) (Or.inl rfl) H
    · have H := hf3 q
      refine hw_ald (b := 0) (e := 0) (by decide +kernel) (get_st1 rfl (by decide) (fun q => absurd q.1 (by decide))) (by decide) ?_
      refine hw_k (c := 3) (b := 0) (e := 1) (by decide +kernel) ?_
      refine hr_call (a0 := 11) (b := 37) (e := 2) (nl := 2) (As := [(0, 3)]) (R := []) 1 rfl (by decide +kernel) rfl rfl (Nat.le_of_ble_eq_true rfl) (Nat.le_of_ble_eq_true rfl) ?_
      refine hw_mono H ?_
      rintro r ψ5 y5 ⟨hyx, z5, hr, H⟩
      subst hyx
      subst hr
      refine ⟨hne0, ?_⟩
      show hw sc (d + 1) 47 36 (jm_st1 [(0, (2, 1)), (1, (2, 5)), (2, (0, 3))] 3 (0, z2)) [(0, z5)] ψ5 y5 Q
      refine hw_pop (a0 := 0) (e := 0) (by decide +kernel) (by decide) ?_
      refine hw_ld (b := 3) (e := 0) (by decide +kernel) get_st1e ?_
      exact hw_ret (a0 := 0) (e := 0) (by decide +kernel) (Or.inl rfl) H
  · have H := hf1 q
    refine hw_ald (b := 0) (e := 0) (by decide +kernel) rfl (by decide) ?_
    refine hw_k (c := 1) (b := 0) (e := 1) (by decide +kernel) ?_
    refine hr_call (a0 := 11) (b := 37) (e := 2) (nl := 2) (As := [(0, 1)]) (R := []) 1 rfl (by decide +kernel) rfl rfl (Nat.le_of_ble_eq_true rfl) (Nat.le_of_ble_eq_true rfl) ?_
    refine hw_mono H ?_
    rintro r ψ7 y7 ⟨hyx, z7, hr, H⟩
    subst hyx
    subst hr
    refine ⟨hne0, ?_⟩
    show hw sc (d + 1) 47 13 [(0, (2, 1)), (1, (2, 5)), (2, (0, 3))] [(0, z7)] ψ7 y7 Q
    refine hw_pop (a0 := 0) (e := 0) (by decide +kernel) (by decide) ?_
    refine hw_k (c := (-1 : Int)) (b := 0) (e := 1) (by decide +kernel) ?_
    exact hw_ret (a0 := 0) (e := 0) (by decide +kernel) (Or.inl rfl) H
theorem sf_47_1_5_k2_3 {sc : List Int} {d : Nat} {φ : hf_F} {x : Nat} {Q : Option jm_V → hf_F → Nat → Prop}  (hI : Inv φ)  (hQ : ∀ (r : Int) (ψ : hf_F), Inv ψ → Fr [2009, 2010] φ ψ → (-1 : Int) ≤ r ∧ r ≤ 7 ∧ (r = -1 ∨ (0 ≤ r ∧ r < φ 6 3 ∧ φ 6 3 ≤ 6)) → F_Reader_peekNamed_1_5_k2_3 φ = (r, ψ) → Q (some (0, r)) ψ x) : hw sc (d + 1) 47 0 [(0, (2, 1)), (1, (2, 5)), (2, (0, 3))] [] φ x Q := by
  apply sf_47_1_5_k2_3_v
  have e0 : F_Reader_peekNamed_1_5_k2_3 φ = _ := rfl
  have f1 := iv_at (a := 1) (k := 5) (lo := 0) (u := 5) hI (by decide +kernel)
  refine ⟨by unfold hi; omega, by unfold hi; omega, fun q1 => ?_, fun q1 => ?_⟩
  · skip
    have e1a := e0.trans (if_pos q1)
    refine sf_42_5_k1_3 (φ := φ) hI  (fun z2 hp2 hE2 => ⟨rfl, rfl, z2, rfl, ?_⟩)
    have e2 := e1a.trans (bnp_e hE2)
    have f2 := iv_at (a := 6) (k := 3) (lo := 0) (u := 6) hI (by decide +kernel)
    refine ⟨by unfold hi; omega, by unfold hi; omega, fun q3 => ?_, fun q3 => ?_⟩
    · skip
      have e3a := e2.trans (if_pos q3)
      exact hQ z2 φ hI (fr_rf) ⟨by omega, by omega, by omega⟩ e3a
    · skip
      have e3b := e2.trans (if_neg q3)
      refine sf_37_1 (φ := φ) hI (by omega) (by omega) (fun z5 ψ5 hI5 hF5 hp5 hE5 => ⟨rfl, z5, rfl, ?_⟩)
      have hG5 : Fr [2009, 2010] φ ψ5 := fr_tr (fr_rf) hF5 (by decide)
      have e5 := e3b.trans (bnd_e hE5)
      exact hQ z2 ψ5 hI5 hG5 ⟨by omega, by omega, by omega⟩ e5
  · skip
    have e1b := e0.trans (if_neg q1)
    refine sf_37_1 (φ := φ) hI (by omega) (by omega) (fun z7 ψ7 hI7 hF7 hp7 hE7 => ⟨rfl, z7, rfl, ?_⟩)
    have hG7 : Fr [2009, 2010] φ ψ7 := fr_tr (fr_rf) hF7 (by decide)
    have e7 := e1b.trans (bnd_e hE7)
    have f3 := iv_at (a := 6) (k := 3) (lo := 0) (u := 6) hI (by decide +kernel)
    exact hQ (-1 : Int) ψ7 hI7 hG7 ⟨by omega, by omega, by omega⟩ e7
theorem sf_134_183_v {sc : List Int} {d : Nat} {φ : hf_F} {x : Nat} {Q : Option jm_V → hf_F → Nat → Prop} 
    (H : hw sc (d + 3) 135 0 [(0, (2, 1)), (1, (0, 10))] [] φ x (fun r ψ1 y1 => y1 = x ∧ φ = ψ1 ∧ (∃ z1 : Int, r = some (0, z1) ∧ (hw sc (d + 3) 135 0 [(0, (2, 1)), (1, (0, 11))] [] φ x (fun r ψ2 y2 => y2 = x ∧ φ = ψ2 ∧ (∃ z2 : Int, r = some (0, z2) ∧ (hi z1 ∧ (¬ z1 = 0 → hi (φ 183 5) ∧ hi 40 ∧ ((φ 183 5) < 40 → hw sc (d + 3) 29 0 [(0, (2, 1))] [] φ x (fun r ψ5 y5 => y5 = x ∧ (r = none ∧ (hi z1 ∧ (z1 = 0 → hi z2 ∧ (z2 = 0 → hw sc (d + 3) 138 0 [(0, (2, 183)), (1, (0, (-1 : Int)))] [] ψ5 x (fun r ψ8 y8 => y8 = x ∧ (∃ z8 : Int, r = some (0, z8) ∧ ((z8 = 0 ∨ z8 = 1) ∧ Q (some (0, z8)) ψ8 x)))) ∧ (¬ z2 = 0 → hw sc (d + 3) 137 0 [(0, (2, 183))] [] ψ5 x (fun r ψ10 y10 => y10 = x ∧ (∃ z10 : Int, r = some (0, z10) ∧ ((z10 = 0 ∨ z10 = 1) ∧ Q (some (0, z10)) ψ10 x))))) ∧ (¬ z1 = 0 → hw sc (d + 3) 136 0 [(0, (2, 183)), (1, (0, 10)), (2, (0, (-1 : Int))), (3, (0, 0))] [] ψ5 x (fun r ψ12 y12 => y12 = x ∧ (∃ z12 : Int, r = some (0, z12) ∧ ((z12 = 0 ∨ z12 = 1) ∧ Q (some (0, z12)) ψ12 x)))))))) ∧ (¬ (φ 183 5) < 40 → hw sc (d + 3) 37 0 [(0, (2, 1)), (1, (0, 4))] [] φ x (fun r ψ14 y14 => y14 = x ∧ (∃ z14 : Int, r = some (0, z14) ∧ ((z14 = 0 ∨ z14 = 1) ∧ Q (some (0, z14)) ψ14 x))))) ∧ (¬ (¬ z1 = 0) → hi z2 ∧ (¬ z2 = 0 → hi (φ 183 5) ∧ hi 40 ∧ ((φ 183 5) < 40 → hw sc (d + 3) 29 0 [(0, (2, 1))] [] φ x (fun r ψ18 y18 => y18 = x ∧ (r = none ∧ (hi z1 ∧ (z1 = 0 → hi z2 ∧ (z2 = 0 → hw sc (d + 3) 138 0 [(0, (2, 183)), (1, (0, (-1 : Int)))] [] ψ18 x (fun r ψ21 y21 => y21 = x ∧ (∃ z21 : Int, r = some (0, z21) ∧ ((z21 = 0 ∨ z21 = 1) ∧ Q (some (0, z21)) ψ21 x)))) ∧ (¬ z2 = 0 → hw sc (d + 3) 137 0 [(0, (2, 183))] [] ψ18 x (fun r ψ23 y23 => y23 = x ∧ (∃ z23 : Int, r = some (0, z23) ∧ ((z23 = 0 ∨ z23 = 1) ∧ Q (some (0, z23)) ψ23 x))))) ∧ (¬ z1 = 0 → hw sc (d + 3) 136 0 [(0, (2, 183)), (1, (0, 10)), (2, (0, (-1 : Int))), (3, (0, 0))] [] ψ18 x (fun r ψ25 y25 => y25 = x ∧ (∃ z25 : Int, r = some (0, z25) ∧ ((z25 = 0 ∨ z25 = 1) ∧ Q (some (0, z25)) ψ25 x)))))))) ∧ (¬ (φ 183 5) < 40 → hw sc (d + 3) 37 0 [(0, (2, 1)), (1, (0, 4))] [] φ x (fun r ψ27 y27 => y27 = x ∧ (∃ z27 : Int, r = some (0, z27) ∧ ((z27 = 0 ∨ z27 = 1) ∧ Q (some (0, z27)) ψ27 x))))) ∧ (¬ (¬ z2 = 0) → hw sc (d + 3) 47 0 [(0, (2, 1)), (1, (2, 5)), (2, (0, 3))] [] φ x (fun r ψ29 y29 => y29 = x ∧ (∃ z29 : Int, r = some (0, z29) ∧ (hi z29 ∧ hi (-1 : Int) ∧ (¬ z29 = (-1 : Int) → hi (ψ29 183 5) ∧ hi 40 ∧ ((ψ29 183 5) < 40 → hw sc (d + 3) 29 0 [(0, (2, 1))] [] ψ29 x (fun r ψ32 y32 => y32 = x ∧ (r = none ∧ (hi z1 ∧ (z1 = 0 → hi z2 ∧ (z2 = 0 → hw sc (d + 3) 138 0 [(0, (2, 183)), (1, (0, z29))] [] ψ32 x (fun r ψ35 y35 => y35 = x ∧ (∃ z35 : Int, r = some (0, z35) ∧ ((z35 = 0 ∨ z35 = 1) ∧ Q (some (0, z35)) ψ35 x)))) ∧ (¬ z2 = 0 → hw sc (d + 3) 137 0 [(0, (2, 183))] [] ψ32 x (fun r ψ37 y37 => y37 = x ∧ (∃ z37 : Int, r = some (0, z37) ∧ ((z37 = 0 ∨ z37 = 1) ∧ Q (some (0, z37)) ψ37 x))))) ∧ (¬ z1 = 0 → hw sc (d + 3) 136 0 [(0, (2, 183)), (1, (0, 10)), (2, (0, (-1 : Int))), (3, (0, 0))] [] ψ32 x (fun r ψ39 y39 => y39 = x ∧ (∃ z39 : Int, r = some (0, z39) ∧ ((z39 = 0 ∨ z39 = 1) ∧ Q (some (0, z39)) ψ39 x)))))))) ∧ (¬ (ψ29 183 5) < 40 → hw sc (d + 3) 37 0 [(0, (2, 1)), (1, (0, 4))] [] ψ29 x (fun r ψ41 y41 => y41 = x ∧ (∃ z41 : Int, r = some (0, z41) ∧ ((z41 = 0 ∨ z41 = 1) ∧ Q (some (0, z41)) ψ41 x))))) ∧ (¬ (¬ z29 = (-1 : Int)) → Q (some (0, 0)) ψ29 x))))))))))))) :
    hw sc (d + 4) 134 0 [(0, (2, 183))] [] φ x Q := by
  refine hw_ald (b := 0) (e := 0) (by decide +kernel) rfl (by decide) ?_
  refine hr_gr (w := 1) (b := 8) (e := 0) 183 rfl (by decide +kernel) ?_
  refine hw_k (c := 10) (b := 1) (e := 2) (by decide +kernel) ?_
  refine hr_call (a0 := 11) (b := 135) (e := 2) (nl := 2) (As := [(0, 10)]) (R := []) 1 rfl (by decide +kernel) rfl rfl (Nat.le_of_ble_eq_true rfl) (Nat.le_of_ble_eq_true rfl) ?_
  refine hw_mono H ?_
  rintro r ψ1 y1 ⟨hyx, hψx, z1, hr, H⟩
  subst hyx
  subst hψx
  subst hr
  refine ⟨hne0, ?_⟩
  show hw sc (d + 4) 134 9 [(0, (2, 183))] [(0, z1)] φ y1 Q
  refine hw_st (L' := (jm_st1 [(0, (2, 183))] 1 (0, z1))) (b := 1) (e := 0) (by decide +kernel) rfl ?_
  refine hw_ald (b := 0) (e := 0) (by decide +kernel) (get_st1 rfl (by decide) (fun q => tg2 q.2)) (by decide) ?_
  refine hr_gr (w := 1) (b := 8) (e := 0) 183 rfl (by decide +kernel) ?_
  refine hw_k (c := 11) (b := 1) (e := 2) (by decide +kernel) ?_
  refine hr_call (a0 := 11) (b := 135) (e := 2) (nl := 2) (As := [(0, 11)]) (R := []) 1 rfl (by decide +kernel) rfl rfl (Nat.le_of_ble_eq_true rfl) (Nat.le_of_ble_eq_true rfl) ?_
  refine hw_mono H ?_
  rintro r ψ2 y2 ⟨hyx, hψx, z2, hr, H⟩
  subst hyx
  subst hψx
  subst hr
  refine ⟨hne0, ?_⟩
  show hw sc (d + 4) 134 19 (jm_st1 [(0, (2, 183))] 1 (0, z1)) [(0, z2)] φ y2 Q
  refine hw_st (L' := (jm_st1 (jm_st1 [(0, (2, 183))] 1 (0, z1)) 2 (0, z2))) (b := 2) (e := 0) (by decide +kernel) rfl ?_
  refine hw_k (c := (-1 : Int)) (b := 0) (e := 1) (by decide +kernel) ?_
  refine hw_st (L' := (jm_st1 (jm_st1 (jm_st1 [(0, (2, 183))] 1 (0, z1)) 2 (0, z2)) 3 (0, (-1 : Int)))) (b := 3) (e := 0) (by decide +kernel) rfl ?_
  refine hw_ld (b := 1) (e := 0) (by decide +kernel) (get_st1 (get_st1 get_st1e (by decide) (fun q => tg0 q.2)) (by decide) (fun q => absurd q.1 (by decide))) ?_
  obtain ⟨hz3, ht3, hf3⟩ := H
  refine hw_if (a0 := 0) (b := 1) (e := 50) (by decide +kernel) hz3 (fun q => ?_) (fun q => ?_)
  · have H := ht3 q
    refine hw_ald (b := 0) (e := 0) (by decide +kernel) (get_st1 (get_st1 (get_st1 rfl (by decide) (fun q => tg2 q.2)) (by decide) (fun q => absurd q.1 (by decide))) (by decide) (fun q => absurd q.1 (by decide))) (by decide) ?_
    refine hr_gi (w := φ 183 5) (b := 8) (e := 5) 183 rfl (by decide +kernel) rfl ?_
    refine hw_k (c := 40) (b := 1) (e := 2) (by decide +kernel) ?_
    obtain ⟨hz4, hy4, ht4, hf4⟩ := H
    refine hw_if2 (a0 := 0) (b := 2) (e := 68) (by decide +kernel) hz4 hy4 (fun q => ?_) (fun q => ?_)
    · have H := ht4 q
      refine hw_ald (b := 0) (e := 0) (by decide +kernel) (get_st1 (get_st1 (get_st1 rfl (by decide) (fun q => tg2 q.2)) (by decide) (fun q => absurd q.1 (by decide))) (by decide) (fun q => absurd q.1 (by decide))) (by decide) ?_
      refine hr_gr (w := 1) (b := 8) (e := 0) 183 rfl (by decide +kernel) ?_
      refine hr_call (a0 := 11) (b := 29) (e := 1) (nl := 1) (As := []) (R := []) 1 rfl (by decide +kernel) rfl rfl (Nat.le_of_ble_eq_true rfl) (Nat.le_of_ble_eq_true rfl) ?_
      refine hw_mono H ?_
      rintro r ψ5 y5 ⟨hyx, hr, H⟩
      subst hyx
      subst hr
      refine ⟨hnen, ?_⟩
      show hw sc (d + 4) 134 75 (jm_st1 (jm_st1 (jm_st1 [(0, (2, 183))] 1 (0, z1)) 2 (0, z2)) 3 (0, (-1 : Int))) [] ψ5 y5 Q
      refine hw_ld (b := 1) (e := 0) (by decide +kernel) (get_st1 (get_st1 get_st1e (by decide) (fun q => tg0 q.2)) (by decide) (fun q => absurd q.1 (by decide))) ?_
      obtain ⟨hz6, ht6, hf6⟩ := H
      refine hw_if (a0 := 0) (b := 0) (e := 88) (by decide +kernel) hz6 (fun q => ?_) (fun q => ?_)
      · have H := ht6 q
        refine hw_ld (b := 2) (e := 0) (by decide +kernel) (get_st1 get_st1e (by decide) (fun q => tg0 q.2)) ?_
        obtain ⟨hz7, ht7, hf7⟩ := H
        refine hw_if (a0 := 0) (b := 0) (e := 99) (by decide +kernel) hz7 (fun q => ?_) (fun q => ?_)
        · have H := ht7 q
          refine hw_ald (b := 0) (e := 0) (by decide +kernel) (get_st1 (get_st1 (get_st1 rfl (by decide) (fun q => tg2 q.2)) (by decide) (fun q => absurd q.1 (by decide))) (by decide) (fun q => absurd q.1 (by decide))) (by decide) ?_
          refine hw_ld (b := 3) (e := 0) (by decide +kernel) get_st1e ?_
          refine hr_call (a0 := 18) (b := 138) (e := 2) (nl := 4) (As := [(0, (-1 : Int))]) (R := []) 183 rfl (by decide +kernel) rfl rfl (Nat.le_of_ble_eq_true rfl) (Nat.le_of_ble_eq_true rfl) ?_
          refine hw_mono H ?_
          rintro r ψ8 y8 ⟨hyx, z8, hr, H⟩
          subst hyx
          subst hr
          refine ⟨hne0, ?_⟩
          show hw sc (d + 4) 134 104 (jm_st1 (jm_st1 (jm_st1 [(0, (2, 183))] 1 (0, z1)) 2 (0, z2)) 3 (0, (-1 : Int))) [(0, z8)] ψ8 y8 Q
          exact hw_ret (a0 := 0) (e := 1) (by decide +kernel) (Or.inr ⟨rfl, H.1⟩) H.2
        · have H := hf7 q
          refine hw_ald (b := 0) (e := 0) (by decide +kernel) (get_st1 (get_st1 (get_st1 rfl (by decide) (fun q => tg2 q.2)) (by decide) (fun q => absurd q.1 (by decide))) (by decide) (fun q => absurd q.1 (by decide))) (by decide) ?_
          refine hr_call (a0 := 18) (b := 137) (e := 1) (nl := 2) (As := []) (R := []) 183 rfl (by decide +kernel) rfl rfl (Nat.le_of_ble_eq_true rfl) (Nat.le_of_ble_eq_true rfl) ?_
          refine hw_mono H ?_
          rintro r ψ10 y10 ⟨hyx, z10, hr, H⟩
          subst hyx
          subst hr
          refine ⟨hne0, ?_⟩
          show hw sc (d + 4) 134 96 (jm_st1 (jm_st1 (jm_st1 [(0, (2, 183))] 1 (0, z1)) 2 (0, z2)) 3 (0, (-1 : Int))) [(0, z10)] ψ10 y10 Q
          refine hw_goto (a0 := 0) (b := 0) (e := 104) (by decide +kernel) ?_
          exact hw_ret (a0 := 0) (e := 1) (by decide +kernel) (Or.inr ⟨rfl, H.1⟩) H.2
      · have H := hf6 q
        refine hw_ald (b := 0) (e := 0) (by decide +kernel) (get_st1 (get_st1 (get_st1 rfl (by decide) (fun q => tg2 q.2)) (by decide) (fun q => absurd q.1 (by decide))) (by decide) (fun q => absurd q.1 (by decide))) (by decide) ?_
        refine hw_k (c := 10) (b := 1) (e := 2) (by decide +kernel) ?_
        refine hw_k (c := (-1 : Int)) (b := 0) (e := 1) (by decide +kernel) ?_
        refine hw_k (c := 0) (b := 0) (e := 1) (by decide +kernel) ?_
        refine hr_call (a0 := 18) (b := 136) (e := 4) (nl := 4) (As := [(0, 10), (0, (-1 : Int)), (0, 0)]) (R := []) 183 rfl (by decide +kernel) rfl rfl (Nat.le_of_ble_eq_true rfl) (Nat.le_of_ble_eq_true rfl) ?_
        refine hw_mono H ?_
        rintro r ψ12 y12 ⟨hyx, z12, hr, H⟩
        subst hyx
        subst hr
        refine ⟨hne0, ?_⟩
        show hw sc (d + 4) 134 87 (jm_st1 (jm_st1 (jm_st1 [(0, (2, 183))] 1 (0, z1)) 2 (0, z2)) 3 (0, (-1 : Int))) [(0, z12)] ψ12 y12 Q
        exact hw_ret (a0 := 0) (e := 1) (by decide +kernel) (Or.inr ⟨rfl, H.1⟩) H.2
    · have H := hf4 q
      refine hw_ald (b := 0) (e := 0) (by decide +kernel) (get_st1 (get_st1 (get_st1 rfl (by decide) (fun q => tg2 q.2)) (by decide) (fun q => absurd q.1 (by decide))) (by decide) (fun q => absurd q.1 (by decide))) (by decide) ?_
      refine hr_gr (w := 1) (b := 8) (e := 0) 183 rfl (by decide +kernel) ?_
      refine hw_k (c := 4) (b := 0) (e := 1) (by decide +kernel) ?_
      refine hr_call (a0 := 11) (b := 37) (e := 2) (nl := 2) (As := [(0, 4)]) (R := []) 1 rfl (by decide +kernel) rfl rfl (Nat.le_of_ble_eq_true rfl) (Nat.le_of_ble_eq_true rfl) ?_
      refine hw_mono H ?_
      rintro r ψ14 y14 ⟨hyx, z14, hr, H⟩
      subst hyx
      subst hr
      refine ⟨hne0, ?_⟩
      show hw sc (d + 4) 134 67 (jm_st1 (jm_st1 (jm_st1 [(0, (2, 183))] 1 (0, z1)) 2 (0, z2)) 3 (0, (-1 : Int))) [(0, z14)] ψ14 y14 Q
      exact hw_ret (a0 := 0) (e := 1) (by decide +kernel) (Or.inr ⟨rfl, H.1⟩) H.2
  · have H := hf3 q
    refine hw_ld (b := 2) (e := 0) (by decide +kernel) (get_st1 get_st1e (by decide) (fun q => tg0 q.2)) ?_
    obtain ⟨hz16, ht16, hf16⟩ := H
    refine hw_if (a0 := 0) (b := 1) (e := 50) (by decide +kernel) hz16 (fun q => ?_) (fun q => ?_)
    · have H := ht16 q
      refine hw_ald (b := 0) (e := 0) (by decide +kernel) (get_st1 (get_st1 (get_st1 rfl (by decide) (fun q => tg2 q.2)) (by decide) (fun q => absurd q.1 (by decide))) (by decide) (fun q => absurd q.1 (by decide))) (by decide) ?_
      refine hr_gi (w := φ 183 5) (b := 8) (e := 5) 183 rfl (by decide +kernel) rfl ?_
      refine hw_k (c := 40) (b := 1) (e := 2) (by decide +kernel) ?_
      obtain ⟨hz17, hy17, ht17, hf17⟩ := H
      refine hw_if2 (a0 := 0) (b := 2) (e := 68) (by decide +kernel) hz17 hy17 (fun q => ?_) (fun q => ?_)
      · have H := ht17 q
        refine hw_ald (b := 0) (e := 0) (by decide +kernel) (get_st1 (get_st1 (get_st1 rfl (by decide) (fun q => tg2 q.2)) (by decide) (fun q => absurd q.1 (by decide))) (by decide) (fun q => absurd q.1 (by decide))) (by decide) ?_
        refine hr_gr (w := 1) (b := 8) (e := 0) 183 rfl (by decide +kernel) ?_
        refine hr_call (a0 := 11) (b := 29) (e := 1) (nl := 1) (As := []) (R := []) 1 rfl (by decide +kernel) rfl rfl (Nat.le_of_ble_eq_true rfl) (Nat.le_of_ble_eq_true rfl) ?_
        refine hw_mono H ?_
        rintro r ψ18 y18 ⟨hyx, hr, H⟩
        subst hyx
        subst hr
        refine ⟨hnen, ?_⟩
        show hw sc (d + 4) 134 75 (jm_st1 (jm_st1 (jm_st1 [(0, (2, 183))] 1 (0, z1)) 2 (0, z2)) 3 (0, (-1 : Int))) [] ψ18 y18 Q
        refine hw_ld (b := 1) (e := 0) (by decide +kernel) (get_st1 (get_st1 get_st1e (by decide) (fun q => tg0 q.2)) (by decide) (fun q => absurd q.1 (by decide))) ?_
        obtain ⟨hz19, ht19, hf19⟩ := H
        refine hw_if (a0 := 0) (b := 0) (e := 88) (by decide +kernel) hz19 (fun q => ?_) (fun q => ?_)
        · have H := ht19 q
          refine hw_ld (b := 2) (e := 0) (by decide +kernel) (get_st1 get_st1e (by decide) (fun q => tg0 q.2)) ?_
          obtain ⟨hz20, ht20, hf20⟩ := H
          refine hw_if (a0 := 0) (b := 0) (e := 99) (by decide +kernel) hz20 (fun q => ?_) (fun q => ?_)
          · have H := ht20 q
            refine hw_ald (b := 0) (e := 0) (by decide +kernel) (get_st1 (get_st1 (get_st1 rfl (by decide) (fun q => tg2 q.2)) (by decide) (fun q => absurd q.1 (by decide))) (by decide) (fun q => absurd q.1 (by decide))) (by decide) ?_
            refine hw_ld (b := 3) (e := 0) (by decide +kernel) get_st1e ?_
            refine hr_call (a0 := 18) (b := 138) (e := 2) (nl := 4) (As := [(0, (-1 : Int))]) (R := []) 183 rfl (by decide +kernel) rfl rfl (Nat.le_of_ble_eq_true rfl) (Nat.le_of_ble_eq_true rfl) ?_
            refine hw_mono H ?_
            rintro r ψ21 y21 ⟨hyx, z21, hr, H⟩
            subst hyx
            subst hr
            refine ⟨hne0, ?_⟩
            show hw sc (d + 4) 134 104 (jm_st1 (jm_st1 (jm_st1 [(0, (2, 183))] 1 (0, z1)) 2 (0, z2)) 3 (0, (-1 : Int))) [(0, z21)] ψ21 y21 Q
            exact hw_ret (a0 := 0) (e := 1) (by decide +kernel) (Or.inr ⟨rfl, H.1⟩) H.2
          · have H := hf20 q
            refine hw_ald (b := 0) (e := 0) (by decide +kernel) (get_st1 (get_st1 (get_st1 rfl (by decide) (fun q => tg2 q.2)) (by decide) (fun q => absurd q.1 (by decide))) (by decide) (fun q => absurd q.1 (by decide))) (by decide) ?_
            refine hr_call (a0 := 18) (b := 137) (e := 1) (nl := 2) (As := []) (R := []) 183 rfl (by decide +kernel) rfl rfl (Nat.le_of_ble_eq_true rfl) (Nat.le_of_ble_eq_true rfl) ?_
            refine hw_mono H ?_
            rintro r ψ23 y23 ⟨hyx, z23, hr, H⟩
            subst hyx
            subst hr
            refine ⟨hne0, ?_⟩
            show hw sc (d + 4) 134 96 (jm_st1 (jm_st1 (jm_st1 [(0, (2, 183))] 1 (0, z1)) 2 (0, z2)) 3 (0, (-1 : Int))) [(0, z23)] ψ23 y23 Q
            refine hw_goto (a0 := 0) (b := 0) (e := 104) (by decide +kernel) ?_
            exact hw_ret (a0 := 0) (e := 1) (by decide +kernel) (Or.inr ⟨rfl, H.1⟩) H.2
        · have H := hf19 q
          refine hw_ald (b := 0) (e := 0) (by decide +kernel) (get_st1 (get_st1 (get_st1 rfl (by decide) (fun q => tg2 q.2)) (by decide) (fun q => absurd q.1 (by decide))) (by decide) (fun q => absurd q.1 (by decide))) (by decide) ?_
          refine hw_k (c := 10) (b := 1) (e := 2) (by decide +kernel) ?_
          refine hw_k (c := (-1 : Int)) (b := 0) (e := 1) (by decide +kernel) ?_
          refine hw_k (c := 0) (b := 0) (e := 1) (by decide +kernel) ?_
          refine hr_call (a0 := 18) (b := 136) (e := 4) (nl := 4) (As := [(0, 10), (0, (-1 : Int)), (0, 0)]) (R := []) 183 rfl (by decide +kernel) rfl rfl (Nat.le_of_ble_eq_true rfl) (Nat.le_of_ble_eq_true rfl) ?_
          refine hw_mono H ?_
          rintro r ψ25 y25 ⟨hyx, z25, hr, H⟩
          subst hyx
          subst hr
          refine ⟨hne0, ?_⟩
          show hw sc (d + 4) 134 87 (jm_st1 (jm_st1 (jm_st1 [(0, (2, 183))] 1 (0, z1)) 2 (0, z2)) 3 (0, (-1 : Int))) [(0, z25)] ψ25 y25 Q
          exact hw_ret (a0 := 0) (e := 1) (by decide +kernel) (Or.inr ⟨rfl, H.1⟩) H.2
      · have H := hf17 q
        refine hw_ald (b := 0) (e := 0) (by decide +kernel) (get_st1 (get_st1 (get_st1 rfl (by decide) (fun q => tg2 q.2)) (by decide) (fun q => absurd q.1 (by decide))) (by decide) (fun q => absurd q.1 (by decide))) (by decide) ?_
        refine hr_gr (w := 1) (b := 8) (e := 0) 183 rfl (by decide +kernel) ?_
        refine hw_k (c := 4) (b := 0) (e := 1) (by decide +kernel) ?_
        refine hr_call (a0 := 11) (b := 37) (e := 2) (nl := 2) (As := [(0, 4)]) (R := []) 1 rfl (by decide +kernel) rfl rfl (Nat.le_of_ble_eq_true rfl) (Nat.le_of_ble_eq_true rfl) ?_
        refine hw_mono H ?_
        rintro r ψ27 y27 ⟨hyx, z27, hr, H⟩
        subst hyx
        subst hr
        refine ⟨hne0, ?_⟩
        show hw sc (d + 4) 134 67 (jm_st1 (jm_st1 (jm_st1 [(0, (2, 183))] 1 (0, z1)) 2 (0, z2)) 3 (0, (-1 : Int))) [(0, z27)] ψ27 y27 Q
        exact hw_ret (a0 := 0) (e := 1) (by decide +kernel) (Or.inr ⟨rfl, H.1⟩) H.2
    · have H := hf16 q
      refine hw_ald (b := 0) (e := 0) (by decide +kernel) (get_st1 (get_st1 (get_st1 rfl (by decide) (fun q => tg2 q.2)) (by decide) (fun q => absurd q.1 (by decide))) (by decide) (fun q => absurd q.1 (by decide))) (by decide) ?_
      refine hr_gr (w := 1) (b := 8) (e := 0) 183 rfl (by decide +kernel) ?_
      refine hw_ald (b := 0) (e := 0) (by decide +kernel) (get_st1 (get_st1 (get_st1 rfl (by decide) (fun q => tg2 q.2)) (by decide) (fun q => absurd q.1 (by decide))) (by decide) (fun q => absurd q.1 (by decide))) (by decide) ?_
      refine hr_gr (w := 5) (b := 8) (e := 1) 183 rfl (by decide +kernel) ?_
      refine hw_k (c := 3) (b := 0) (e := 1) (by decide +kernel) ?_
      refine hr_call (a0 := 11) (b := 47) (e := 3) (nl := 4) (As := [(2, 5), (0, 3)]) (R := []) 1 rfl (by decide +kernel) rfl rfl (Nat.le_of_ble_eq_true rfl) (Nat.le_of_ble_eq_true rfl) ?_
      refine hw_mono H ?_
      rintro r ψ29 y29 ⟨hyx, z29, hr, H⟩
      subst hyx
      subst hr
      refine ⟨hne0, ?_⟩
      show hw sc (d + 4) 134 42 (jm_st1 (jm_st1 (jm_st1 [(0, (2, 183))] 1 (0, z1)) 2 (0, z2)) 3 (0, (-1 : Int))) [(0, z29)] ψ29 y29 Q
      refine hw_st (L' := (jm_st1 (jm_st1 (jm_st1 (jm_st1 [(0, (2, 183))] 1 (0, z1)) 2 (0, z2)) 3 (0, (-1 : Int))) 3 (0, z29))) (b := 3) (e := 0) (by decide +kernel) rfl ?_
      refine hw_ld (b := 3) (e := 0) (by decide +kernel) get_st1e ?_
      refine hw_k (c := (-1 : Int)) (b := 0) (e := 1) (by decide +kernel) ?_
      obtain ⟨hz30, hy30, ht30, hf30⟩ := H
      refine hw_if2 (a0 := 0) (b := 1) (e := 50) (by decide +kernel) hz30 hy30 (fun q => ?_) (fun q => ?_)
      · have H := ht30 q
        refine hw_ald (b := 0) (e := 0) (by decide +kernel) (get_st1 (get_st1 (get_st1 (get_st1 rfl (by decide) (fun q => tg2 q.2)) (by decide) (fun q => absurd q.1 (by decide))) (by decide) (fun q => absurd q.1 (by decide))) (by decide) (fun q => absurd q.1 (by decide))) (by decide) ?_
        refine hr_gi (w := ψ29 183 5) (b := 8) (e := 5) 183 rfl (by decide +kernel) rfl ?_
        refine hw_k (c := 40) (b := 1) (e := 2) (by decide +kernel) ?_
        obtain ⟨hz31, hy31, ht31, hf31⟩ := H
        refine hw_if2 (a0 := 0) (b := 2) (e := 68) (by decide +kernel) hz31 hy31 (fun q => ?_) (fun q => ?_)
        · have H := ht31 q
          refine hw_ald (b := 0) (e := 0) (by decide +kernel) (get_st1 (get_st1 (get_st1 (get_st1 rfl (by decide) (fun q => tg2 q.2)) (by decide) (fun q => absurd q.1 (by decide))) (by decide) (fun q => absurd q.1 (by decide))) (by decide) (fun q => absurd q.1 (by decide))) (by decide) ?_
          refine hr_gr (w := 1) (b := 8) (e := 0) 183 rfl (by decide +kernel) ?_
          refine hr_call (a0 := 11) (b := 29) (e := 1) (nl := 1) (As := []) (R := []) 1 rfl (by decide +kernel) rfl rfl (Nat.le_of_ble_eq_true rfl) (Nat.le_of_ble_eq_true rfl) ?_
          refine hw_mono H ?_
          rintro r ψ32 y32 ⟨hyx, hr, H⟩
          subst hyx
          subst hr
          refine ⟨hnen, ?_⟩
          show hw sc (d + 4) 134 75 (jm_st1 (jm_st1 (jm_st1 (jm_st1 [(0, (2, 183))] 1 (0, z1)) 2 (0, z2)) 3 (0, (-1 : Int))) 3 (0, z29)) [] ψ32 y32 Q
          refine hw_ld (b := 1) (e := 0) (by decide +kernel) (get_st1 (get_st1 (get_st1 get_st1e (by decide) (fun q => tg0 q.2)) (by decide) (fun q => absurd q.1 (by decide))) (by decide) (fun q => absurd q.1 (by decide))) ?_
          obtain ⟨hz33, ht33, hf33⟩ := H
          refine hw_if (a0 := 0) (b := 0) (e := 88) (by decide +kernel) hz33 (fun q => ?_) (fun q => ?_)
          · have H := ht33 q
            refine hw_ld (b := 2) (e := 0) (by decide +kernel) (get_st1 (get_st1 get_st1e (by decide) (fun q => tg0 q.2)) (by decide) (fun q => tg0 q.2)) ?_
            obtain ⟨hz34, ht34, hf34⟩ := H
            refine hw_if (a0 := 0) (b := 0) (e := 99) (by decide +kernel) hz34 (fun q => ?_) (fun q => ?_)
            · have H := ht34 q
              refine hw_ald (b := 0) (e := 0) (by decide +kernel) (get_st1 (get_st1 (get_st1 (get_st1 rfl (by decide) (fun q => tg2 q.2)) (by decide) (fun q => absurd q.1 (by decide))) (by decide) (fun q => absurd q.1 (by decide))) (by decide) (fun q => absurd q.1 (by decide))) (by decide) ?_
              refine hw_ld (b := 3) (e := 0) (by decide +kernel) get_st1e ?_
              refine hr_call (a0 := 18) (b := 138) (e := 2) (nl := 4) (As := [(0, z29)]) (R := []) 183 rfl (by decide +kernel) rfl rfl (Nat.le_of_ble_eq_true rfl) (Nat.le_of_ble_eq_true rfl) ?_
              refine hw_mono H ?_
              rintro r ψ35 y35 ⟨hyx, z35, hr, H⟩
              subst hyx
              subst hr
              refine ⟨hne0, ?_⟩
              show hw sc (d + 4) 134 104 (jm_st1 (jm_st1 (jm_st1 (jm_st1 [(0, (2, 183))] 1 (0, z1)) 2 (0, z2)) 3 (0, (-1 : Int))) 3 (0, z29)) [(0, z35)] ψ35 y35 Q
              exact hw_ret (a0 := 0) (e := 1) (by decide +kernel) (Or.inr ⟨rfl, H.1⟩) H.2
            · have H := hf34 q
              refine hw_ald (b := 0) (e := 0) (by decide +kernel) (get_st1 (get_st1 (get_st1 (get_st1 rfl (by decide) (fun q => tg2 q.2)) (by decide) (fun q => absurd q.1 (by decide))) (by decide) (fun q => absurd q.1 (by decide))) (by decide) (fun q => absurd q.1 (by decide))) (by decide) ?_
              refine hr_call (a0 := 18) (b := 137) (e := 1) (nl := 2) (As := []) (R := []) 183 rfl (by decide +kernel) rfl rfl (Nat.le_of_ble_eq_true rfl) (Nat.le_of_ble_eq_true rfl) ?_
              refine hw_mono H ?_
              rintro r ψ37 y37 ⟨hyx, z37, hr, H⟩
              subst hyx
              subst hr
              refine ⟨hne0, ?_⟩
              show hw sc (d + 4) 134 96 (jm_st1 (jm_st1 (jm_st1 (jm_st1 [(0, (2, 183))] 1 (0, z1)) 2 (0, z2)) 3 (0, (-1 : Int))) 3 (0, z29)) [(0, z37)] ψ37 y37 Q
              refine hw_goto (a0 := 0) (b := 0) (e := 104) (by decide +kernel) ?_
              exact hw_ret (a0 := 0) (e := 1) (by decide +kernel) (Or.inr ⟨rfl, H.1⟩) H.2
          · have H := hf33 q
            refine hw_ald (b := 0) (e := 0) (by decide +kernel) (get_st1 (get_st1 (get_st1 (get_st1 rfl (by decide) (fun q => tg2 q.2)) (by decide) (fun q => absurd q.1 (by decide))) (by decide) (fun q => absurd q.1 (by decide))) (by decide) (fun q => absurd q.1 (by decide))) (by decide) ?_
            refine hw_k (c := 10) (b := 1) (e := 2) (by decide +kernel) ?_
            refine hw_k (c := (-1 : Int)) (b := 0) (e := 1) (by decide +kernel) ?_
            refine hw_k (c := 0) (b := 0) (e := 1) (by decide +kernel) ?_
            refine hr_call (a0 := 18) (b := 136) (e := 4) (nl := 4) (As := [(0, 10), (0, (-1 : Int)), (0, 0)]) (R := []) 183 rfl (by decide +kernel) rfl rfl (Nat.le_of_ble_eq_true rfl) (Nat.le_of_ble_eq_true rfl) ?_
            refine hw_mono H ?_
            rintro r ψ39 y39 ⟨hyx, z39, hr, H⟩
            subst hyx
            subst hr
            refine ⟨hne0, ?_⟩
            show hw sc (d + 4) 134 87 (jm_st1 (jm_st1 (jm_st1 (jm_st1 [(0, (2, 183))] 1 (0, z1)) 2 (0, z2)) 3 (0, (-1 : Int))) 3 (0, z29)) [(0, z39)] ψ39 y39 Q
            exact hw_ret (a0 := 0) (e := 1) (by decide +kernel) (Or.inr ⟨rfl, H.1⟩) H.2
        · have H := hf31 q
          refine hw_ald (b := 0) (e := 0) (by decide +kernel) (get_st1 (get_st1 (get_st1 (get_st1 rfl (by decide) (fun q => tg2 q.2)) (by decide) (fun q => absurd q.1 (by decide))) (by decide) (fun q => absurd q.1 (by decide))) (by decide) (fun q => absurd q.1 (by decide))) (by decide) ?_
          refine hr_gr (w := 1) (b := 8) (e := 0) 183 rfl (by decide +kernel) ?_
          refine hw_k (c := 4) (b := 0) (e := 1) (by decide +kernel) ?_
          refine hr_call (a0 := 11) (b := 37) (e := 2) (nl := 2) (As := [(0, 4)]) (R := []) 1 rfl (by decide +kernel) rfl rfl (Nat.le_of_ble_eq_true rfl) (Nat.le_of_ble_eq_true rfl) ?_
          refine hw_mono H ?_
          rintro r ψ41 y41 ⟨hyx, z41, hr, H⟩
          subst hyx
          subst hr
          refine ⟨hne0, ?_⟩
          show hw sc (d + 4) 134 67 (jm_st1 (jm_st1 (jm_st1 (jm_st1 [(0, (2, 183))] 1 (0, z1)) 2 (0, z2)) 3 (0, (-1 : Int))) 3 (0, z29)) [(0, z41)] ψ41 y41 Q
          exact hw_ret (a0 := 0) (e := 1) (by decide +kernel) (Or.inr ⟨rfl, H.1⟩) H.2
      · have H := hf30 q
        refine hw_k (c := 0) (b := 0) (e := 1) (by decide +kernel) ?_
        exact hw_ret (a0 := 0) (e := 1) (by decide +kernel) (Or.inr ⟨rfl, by decide⟩) H
theorem sf_134_183 {sc : List Int} {d : Nat} {φ : hf_F} {x : Nat} {Q : Option jm_V → hf_F → Nat → Prop}  (hI : Inv φ)  (hQ : ∀ (r : Int) (ψ : hf_F), Inv ψ → Fr [184, 185, 186, 2004, 2005, 2006, 2007, 2008, 2009, 2010, 184005] φ ψ → 0 ≤ r ∧ r ≤ 1 → F_BookText_readLine_183 φ = (r, ψ) → Q (some (0, r)) ψ x) : hw sc (d + 4) 134 0 [(0, (2, 183))] [] φ x Q := by
  apply sf_134_183_v
  have e0 : F_BookText_readLine_183 φ = _ := rfl
  refine sf_135_1 (φ := φ) hI (by omega) (by omega) (fun z1 hp1 hE1 => ⟨rfl, rfl, z1, rfl, ?_⟩)
  have e1 := e0.trans (bnp_e hE1)
  refine sf_135_1 (φ := φ) hI (by omega) (by omega) (fun z2 hp2 hE2 => ⟨rfl, rfl, z2, rfl, ?_⟩)
  have e2 := e1.trans (bnp_e hE2)
  refine ⟨by unfold hi; omega, fun q3 => ?_, fun q3 => ?_⟩
  · skip
    have e3a := e2.trans (if_pos q3)
    have f1 := iv_at (a := 183) (k := 5) (lo := 0) (u := 40) hI (by decide +kernel)
    refine ⟨by unfold hi; omega, by unfold hi; omega, fun q4 => ?_, fun q4 => ?_⟩
    · skip
      have e4a := e3a.trans (if_pos q4)
      refine sf_29_1 (φ := φ) hI  (fun ψ5 hI5 hF5 hE5 => ⟨rfl, rfl, ?_⟩)
      have hG5 : Fr [184, 185, 186, 2004, 2005, 2006, 2007, 2008, 2009, 2010, 184005] φ ψ5 := fr_tr (fr_rf) hF5 (by decide)
      have e5 := e4a.trans (bnv_e hE5)
      refine ⟨by unfold hi; omega, fun q6 => ?_, fun q6 => ?_⟩
      · skip
        have e6a := e5.trans (if_pos q6)
        refine ⟨by unfold hi; omega, fun q7 => ?_, fun q7 => ?_⟩
        · skip
          have e7a := e6a.trans (if_pos q7)
          refine sf_138_183 (φ := ψ5) hI5 (by omega) (by omega) (fun z8 ψ8 hI8 hF8 hp8 hE8 => ⟨rfl, z8, rfl, ?_⟩)
          have hG8 : Fr [184, 185, 186, 2004, 2005, 2006, 2007, 2008, 2009, 2010, 184005] φ ψ8 := fr_tr hG5 hF8 (by decide)
          have e8 := e7a.trans (bnd_e hE8)
          refine ⟨by omega, ?_⟩
          exact hQ z8 ψ8 hI8 hG8 ⟨by omega, by omega⟩ e8
        · skip
          have e7b := e6a.trans (if_neg q7)
          refine sf_137_183 (φ := ψ5) hI5  (fun z10 ψ10 hI10 hF10 hp10 hE10 => ⟨rfl, z10, rfl, ?_⟩)
          have hG10 : Fr [184, 185, 186, 2004, 2005, 2006, 2007, 2008, 2009, 2010, 184005] φ ψ10 := fr_tr hG5 hF10 (by decide)
          have e10 := e7b.trans (bnd_e hE10)
          refine ⟨by omega, ?_⟩
          exact hQ z10 ψ10 hI10 hG10 ⟨by omega, by omega⟩ e10
      · skip
        have e6b := e5.trans (if_neg q6)
        refine sf_136_183 (φ := ψ5) hI5 (by omega) (by omega) (by omega) (by omega) (by omega) (by omega) (by omega) (by omega) (fun z12 ψ12 hI12 hF12 hp12 hE12 => ⟨rfl, z12, rfl, ?_⟩)
        have hG12 : Fr [184, 185, 186, 2004, 2005, 2006, 2007, 2008, 2009, 2010, 184005] φ ψ12 := fr_tr hG5 hF12 (by decide)
        have e12 := e6b.trans (bnd_e hE12)
        refine ⟨by omega, ?_⟩
        exact hQ z12 ψ12 hI12 hG12 ⟨by omega, by omega⟩ e12
    · skip
      have e4b := e3a.trans (if_neg q4)
      refine sf_37_1 (φ := φ) hI (by omega) (by omega) (fun z14 ψ14 hI14 hF14 hp14 hE14 => ⟨rfl, z14, rfl, ?_⟩)
      have hG14 : Fr [184, 185, 186, 2004, 2005, 2006, 2007, 2008, 2009, 2010, 184005] φ ψ14 := fr_tr (fr_rf) hF14 (by decide)
      have e14 := e4b.trans (bnd_e hE14)
      refine ⟨by omega, ?_⟩
      exact hQ z14 ψ14 hI14 hG14 ⟨by omega, by omega⟩ e14
  · skip
    have e3b := e2.trans (if_neg q3)
    refine ⟨by unfold hi; omega, fun q16 => ?_, fun q16 => ?_⟩
    · skip
      have e16a := e3b.trans (if_pos q16)
      have f2 := iv_at (a := 183) (k := 5) (lo := 0) (u := 40) hI (by decide +kernel)
      refine ⟨by unfold hi; omega, by unfold hi; omega, fun q17 => ?_, fun q17 => ?_⟩
      · skip
        have e17a := e16a.trans (if_pos q17)
        refine sf_29_1 (φ := φ) hI  (fun ψ18 hI18 hF18 hE18 => ⟨rfl, rfl, ?_⟩)
        have hG18 : Fr [184, 185, 186, 2004, 2005, 2006, 2007, 2008, 2009, 2010, 184005] φ ψ18 := fr_tr (fr_rf) hF18 (by decide)
        have e18 := e17a.trans (bnv_e hE18)
        refine ⟨by unfold hi; omega, fun q19 => ?_, fun q19 => ?_⟩
        · skip
          have e19a := e18.trans (if_pos q19)
          refine ⟨by unfold hi; omega, fun q20 => ?_, fun q20 => ?_⟩
          · skip
            have e20a := e19a.trans (if_pos q20)
            refine sf_138_183 (φ := ψ18) hI18 (by omega) (by omega) (fun z21 ψ21 hI21 hF21 hp21 hE21 => ⟨rfl, z21, rfl, ?_⟩)
            have hG21 : Fr [184, 185, 186, 2004, 2005, 2006, 2007, 2008, 2009, 2010, 184005] φ ψ21 := fr_tr hG18 hF21 (by decide)
            have e21 := e20a.trans (bnd_e hE21)
            refine ⟨by omega, ?_⟩
            exact hQ z21 ψ21 hI21 hG21 ⟨by omega, by omega⟩ e21
          · skip
            have e20b := e19a.trans (if_neg q20)
            refine sf_137_183 (φ := ψ18) hI18  (fun z23 ψ23 hI23 hF23 hp23 hE23 => ⟨rfl, z23, rfl, ?_⟩)
            have hG23 : Fr [184, 185, 186, 2004, 2005, 2006, 2007, 2008, 2009, 2010, 184005] φ ψ23 := fr_tr hG18 hF23 (by decide)
            have e23 := e20b.trans (bnd_e hE23)
            refine ⟨by omega, ?_⟩
            exact hQ z23 ψ23 hI23 hG23 ⟨by omega, by omega⟩ e23
        · skip
          have e19b := e18.trans (if_neg q19)
          refine sf_136_183 (φ := ψ18) hI18 (by omega) (by omega) (by omega) (by omega) (by omega) (by omega) (by omega) (by omega) (fun z25 ψ25 hI25 hF25 hp25 hE25 => ⟨rfl, z25, rfl, ?_⟩)
          have hG25 : Fr [184, 185, 186, 2004, 2005, 2006, 2007, 2008, 2009, 2010, 184005] φ ψ25 := fr_tr hG18 hF25 (by decide)
          have e25 := e19b.trans (bnd_e hE25)
          refine ⟨by omega, ?_⟩
          exact hQ z25 ψ25 hI25 hG25 ⟨by omega, by omega⟩ e25
      · skip
        have e17b := e16a.trans (if_neg q17)
        refine sf_37_1 (φ := φ) hI (by omega) (by omega) (fun z27 ψ27 hI27 hF27 hp27 hE27 => ⟨rfl, z27, rfl, ?_⟩)
        have hG27 : Fr [184, 185, 186, 2004, 2005, 2006, 2007, 2008, 2009, 2010, 184005] φ ψ27 := fr_tr (fr_rf) hF27 (by decide)
        have e27 := e17b.trans (bnd_e hE27)
        refine ⟨by omega, ?_⟩
        exact hQ z27 ψ27 hI27 hG27 ⟨by omega, by omega⟩ e27
    · skip
      have e16b := e3b.trans (if_neg q16)
      refine sf_47_1_5_k2_3 (φ := φ) hI  (fun z29 ψ29 hI29 hF29 hp29 hE29 => ⟨rfl, z29, rfl, ?_⟩)
      have hG29 : Fr [184, 185, 186, 2004, 2005, 2006, 2007, 2008, 2009, 2010, 184005] φ ψ29 := fr_tr (fr_rf) hF29 (by decide)
      have f3 := iv_at (a := 6) (k := 3) (lo := 0) (u := 6) hI (by decide +kernel)
      have e29 := e16b.trans (bnd_e hE29)
      refine ⟨by unfold hi; omega, by unfold hi; omega, fun q30 => ?_, fun q30 => ?_⟩
      · skip
        have e30a := e29.trans (if_pos q30)
        have f4 := iv_at (a := 183) (k := 5) (lo := 0) (u := 40) hI29 (by decide +kernel)
        have f5 : ψ29 183 5 = φ 183 5 := (fr_fd hF29 183 5 (by decide))
        have f6 := iv_at (a := 183) (k := 5) (lo := 0) (u := 40) hI (by decide +kernel)
        refine ⟨by unfold hi; omega, by unfold hi; omega, fun q31 => ?_, fun q31 => ?_⟩
        · skip
          have e31a := e30a.trans (if_pos q31)
          refine sf_29_1 (φ := ψ29) hI29  (fun ψ32 hI32 hF32 hE32 => ⟨rfl, rfl, ?_⟩)
          have hG32 : Fr [184, 185, 186, 2004, 2005, 2006, 2007, 2008, 2009, 2010, 184005] φ ψ32 := fr_tr hG29 hF32 (by decide)
          have e32 := e31a.trans (bnv_e hE32)
          refine ⟨by unfold hi; omega, fun q33 => ?_, fun q33 => ?_⟩
          · skip
            have e33a := e32.trans (if_pos q33)
            refine ⟨by unfold hi; omega, fun q34 => ?_, fun q34 => ?_⟩
            · skip
              have e34a := e33a.trans (if_pos q34)
              refine sf_138_183 (φ := ψ32) hI32 (by omega) (by omega) (fun z35 ψ35 hI35 hF35 hp35 hE35 => ⟨rfl, z35, rfl, ?_⟩)
              have hG35 : Fr [184, 185, 186, 2004, 2005, 2006, 2007, 2008, 2009, 2010, 184005] φ ψ35 := fr_tr hG32 hF35 (by decide)
              have e35 := e34a.trans (bnd_e hE35)
              refine ⟨by omega, ?_⟩
              exact hQ z35 ψ35 hI35 hG35 ⟨by omega, by omega⟩ e35
            · skip
              have e34b := e33a.trans (if_neg q34)
              refine sf_137_183 (φ := ψ32) hI32  (fun z37 ψ37 hI37 hF37 hp37 hE37 => ⟨rfl, z37, rfl, ?_⟩)
              have hG37 : Fr [184, 185, 186, 2004, 2005, 2006, 2007, 2008, 2009, 2010, 184005] φ ψ37 := fr_tr hG32 hF37 (by decide)
              have e37 := e34b.trans (bnd_e hE37)
              refine ⟨by omega, ?_⟩
              exact hQ z37 ψ37 hI37 hG37 ⟨by omega, by omega⟩ e37
          · skip
            have e33b := e32.trans (if_neg q33)
            refine sf_136_183 (φ := ψ32) hI32 (by omega) (by omega) (by omega) (by omega) (by omega) (by omega) (by omega) (by omega) (fun z39 ψ39 hI39 hF39 hp39 hE39 => ⟨rfl, z39, rfl, ?_⟩)
            have hG39 : Fr [184, 185, 186, 2004, 2005, 2006, 2007, 2008, 2009, 2010, 184005] φ ψ39 := fr_tr hG32 hF39 (by decide)
            have e39 := e33b.trans (bnd_e hE39)
            refine ⟨by omega, ?_⟩
            exact hQ z39 ψ39 hI39 hG39 ⟨by omega, by omega⟩ e39
        · skip
          have e31b := e30a.trans (if_neg q31)
          refine sf_37_1 (φ := ψ29) hI29 (by omega) (by omega) (fun z41 ψ41 hI41 hF41 hp41 hE41 => ⟨rfl, z41, rfl, ?_⟩)
          have hG41 : Fr [184, 185, 186, 2004, 2005, 2006, 2007, 2008, 2009, 2010, 184005] φ ψ41 := fr_tr hG29 hF41 (by decide)
          have e41 := e31b.trans (bnd_e hE41)
          refine ⟨by omega, ?_⟩
          exact hQ z41 ψ41 hI41 hG41 ⟨by omega, by omega⟩ e41
      · skip
        have e30b := e29.trans (if_neg q30)
        exact hQ 0 ψ29 hI29 hG29 ⟨by omega, by omega⟩ e30b
theorem sf_133_183_v17 {sc : List Int} {d : Nat} {φ : hf_F} {x : Nat} {Q : Option jm_V → hf_F → Nat → Prop} {L : jm_L} {l1 : Int} (g0 : jm_get L 0 = some (2, 183)) (g1 : jm_get L 1 = some (0, l1))
    (H : hi l1 ∧ hi 40 ∧ (40 < l1 → Q (some (0, 1)) φ x) ∧ (¬ 40 < l1 → hi (φ 1 5) ∧ ((φ 1 5) = 0 → Q (some (0, 1)) φ x) ∧ (¬ (φ 1 5) = 0 → hw sc (d + 4) 134 0 [(0, (2, 183))] [] φ x (fun r ψ5 y5 => y5 = x ∧ (∃ z5 : Int, r = some (0, z5) ∧ (hi z5 ∧ (z5 = 0 → Q (some (0, 0)) ψ5 x) ∧ (¬ z5 = 0 → hw sc (d + 4) 60 0 [(0, (2, 1)), (1, (0, 59))] [] ψ5 x (fun r ψ8 y8 => y8 = x ∧ (∃ z8 : Int, r = some (0, z8) ∧ (hi z8 ∧ (¬ z8 = 0 → hw sc (d + 5) 133 17 (jm_st1 L 1 (0, l1 + 1)) [] ψ8 x Q) ∧ (¬ (¬ z8 = 0) → Q (some (0, 0)) ψ8 x))))))))))) :
    hw sc (d + 5) 133 17 L [] φ x Q := by
  refine hw_ld (b := 1) (e := 0) (by decide +kernel) g1 ?_
  refine hw_k (c := 40) (b := 1) (e := 2) (by decide +kernel) ?_
  obtain ⟨hz1, hy1, ht1, hf1⟩ := H
  refine hw_if2 (a0 := 0) (b := 4) (e := 60) (by decide +kernel) hz1 hy1 (fun q => ?_) (fun q => ?_)
  · have H := ht1 q
    refine hw_k (c := 1) (b := 0) (e := 1) (by decide +kernel) ?_
    exact hw_ret (a0 := 0) (e := 1) (by decide +kernel) (Or.inr ⟨rfl, by decide⟩) H
  · have H := hf1 q
    refine hw_ald (b := 0) (e := 0) (by decide +kernel) g0 (by decide) ?_
    refine hr_gr (w := 1) (b := 8) (e := 0) 183 rfl (by decide +kernel) ?_
    refine hr_gi (w := φ 1 5) (b := 1) (e := 5) 1 rfl (by decide +kernel) rfl ?_
    obtain ⟨hz3, ht3, hf3⟩ := H
    refine hw_if (a0 := 0) (b := 0) (e := 60) (by decide +kernel) hz3 (fun q => ?_) (fun q => ?_)
    · have H := ht3 q
      refine hw_k (c := 1) (b := 0) (e := 1) (by decide +kernel) ?_
      exact hw_ret (a0 := 0) (e := 1) (by decide +kernel) (Or.inr ⟨rfl, by decide⟩) H
    · have H := hf3 q
      refine hw_ald (b := 0) (e := 0) (by decide +kernel) g0 (by decide) ?_
      refine hr_call (a0 := 18) (b := 134) (e := 1) (nl := 4) (As := []) (R := []) 183 rfl (by decide +kernel) rfl rfl (Nat.le_of_ble_eq_true rfl) (Nat.le_of_ble_eq_true rfl) ?_
      refine hw_mono H ?_
      rintro r ψ5 y5 ⟨hyx, z5, hr, H⟩
      subst hyx
      subst hr
      refine ⟨hne0, ?_⟩
      show hw sc (d + 5) 133 37 L [(0, z5)] ψ5 y5 Q
      obtain ⟨hz6, ht6, hf6⟩ := H
      refine hw_if (a0 := 0) (b := 0) (e := 52) (by decide +kernel) hz6 (fun q => ?_) (fun q => ?_)
      · have H := ht6 q
        refine hw_k (c := 0) (b := 0) (e := 1) (by decide +kernel) ?_
        exact hw_ret (a0 := 0) (e := 1) (by decide +kernel) (Or.inr ⟨rfl, by decide⟩) H
      · have H := hf6 q
        refine hw_ald (b := 0) (e := 0) (by decide +kernel) g0 (by decide) ?_
        refine hr_gr (w := 1) (b := 8) (e := 0) 183 rfl (by decide +kernel) ?_
        refine hw_k (c := 59) (b := 1) (e := 2) (by decide +kernel) ?_
        refine hr_call (a0 := 11) (b := 60) (e := 2) (nl := 2) (As := [(0, 59)]) (R := []) 1 rfl (by decide +kernel) rfl rfl (Nat.le_of_ble_eq_true rfl) (Nat.le_of_ble_eq_true rfl) ?_
        refine hw_mono H ?_
        rintro r ψ8 y8 ⟨hyx, z8, hr, H⟩
        subst hyx
        subst hr
        refine ⟨hne0, ?_⟩
        show hw sc (d + 5) 133 49 L [(0, z8)] ψ8 y8 Q
        obtain ⟨hz9, ht9, hf9⟩ := H
        refine hw_if (a0 := 0) (b := 1) (e := 54) (by decide +kernel) hz9 (fun q => ?_) (fun q => ?_)
        · have H := ht9 q
          refine hw_inc (L' := (jm_st1 L 1 (0, l1 + 1))) (c := 1) (b := 1) (e := 0) (by decide +kernel) g1 rfl ?_
          refine hw_goto (a0 := 0) (b := 0) (e := 17) (by decide +kernel) ?_
          exact H
        · have H := hf9 q
          refine hw_k (c := 0) (b := 0) (e := 1) (by decide +kernel) ?_
          exact hw_ret (a0 := 0) (e := 1) (by decide +kernel) (Or.inr ⟨rfl, by decide⟩) H
theorem sf_133_183_l17 {sc : List Int} {d x : Nat} {Q : Option jm_V → hf_F → Nat → Prop} : ∀ (n : Nat) (φ : hf_F) (L : jm_L) (l1 : Int), jm_get L 0 = some (2, 183) → jm_get L 1 = some (0, l1) → Inv φ → 41 - l1 < (n : Int) → 0 ≤ l1 → l1 ≤ 41 → (∀ (r : Int) (ψ : hf_F), Inv ψ → Fr [184, 185, 186, 2003, 2004, 2005, 2006, 2007, 2008, 2009, 2010, 184005] φ ψ → 0 ≤ r ∧ r ≤ 1 → F_BookText_readAll_183_l17 n φ l1 = (r, ψ) → Q (some (0, r)) ψ x) → hw sc (d + 5) 133 17 L [] φ x Q := by
  intro n
  induction n with
  | zero =>
    intro φ L l1 g0 g1 hI hM b1a b1b hQ
    exfalso
    omega
  | succ n ih =>
    intro φ L l1 g0 g1 hI hM b1a b1b hQ
    refine sf_133_183_v17 g0 g1 ?_
    have e0 := F_BookText_readAll_183_l17_s (φ := φ) (l1 := l1) n
    refine ⟨by unfold hi; omega, by unfold hi; omega, fun q1 => ?_, fun q1 => ?_⟩
    · skip
      have e1a := e0.trans (if_pos q1)
      exact hQ 1 φ hI (fr_rf) ⟨by omega, by omega⟩ e1a
    · skip
      have e1b := e0.trans (if_neg q1)
      have f1 := iv_at (a := 1) (k := 5) (lo := 0) (u := 5) hI (by decide +kernel)
      refine ⟨by unfold hi; omega, fun q3 => ?_, fun q3 => ?_⟩
      · skip
        have e3a := e1b.trans (if_pos q3)
        exact hQ 1 φ hI (fr_rf) ⟨by omega, by omega⟩ e3a
      · skip
        have e3b := e1b.trans (if_neg q3)
        refine sf_134_183 (φ := φ) hI  (fun z5 ψ5 hI5 hF5 hp5 hE5 => ⟨rfl, z5, rfl, ?_⟩)
        have hG5 : Fr [184, 185, 186, 2003, 2004, 2005, 2006, 2007, 2008, 2009, 2010, 184005] φ ψ5 := fr_tr (fr_rf) hF5 (by decide)
        have e5 := e3b.trans (bnd_e hE5)
        refine ⟨by unfold hi; omega, fun q6 => ?_, fun q6 => ?_⟩
        · skip
          have e6a := e5.trans (if_pos q6)
          exact hQ 0 ψ5 hI5 hG5 ⟨by omega, by omega⟩ e6a
        · skip
          have e6b := e5.trans (if_neg q6)
          refine sf_60_1 (φ := ψ5) hI5 (by omega) (by omega) (fun z8 ψ8 hI8 hF8 hp8 hE8 => ⟨rfl, z8, rfl, ?_⟩)
          have hG8 : Fr [184, 185, 186, 2003, 2004, 2005, 2006, 2007, 2008, 2009, 2010, 184005] φ ψ8 := fr_tr hG5 hF8 (by decide)
          have e8 := e6b.trans (bnd_e hE8)
          refine ⟨by unfold hi; omega, fun q9 => ?_, fun q9 => ?_⟩
          · skip
            have e9a := e8.trans (if_pos q9)
            exact ih ψ8 (jm_st1 L 1 (0, l1 + 1)) (l1 + 1) (get_st1 g0 (by decide) (fun q => tg2 q.2)) get_st1e hI8 (by omega) (by omega) (by omega) (fun rr χ hIχ hFχ hpχ hEχ => hQ rr χ hIχ (fr_tr hG8 hFχ (by decide)) hpχ (e9a.trans hEχ))
          · skip
            have e9b := e8.trans (if_neg q9)
            exact hQ 0 ψ8 hI8 hG8 ⟨by omega, by omega⟩ e9b
theorem sf_133_183_v {sc : List Int} {d : Nat} {φ : hf_F} {x : Nat} {Q : Option jm_V → hf_F → Nat → Prop} 
    (H : hw sc (d + 4) 28 0 [(0, (2, 1)), (1, (0, 400))] [] (hf_up φ 183 5 0) x (fun r ψ1 y1 => y1 = x ∧ (r = none ∧ (hw sc (d + 5) 133 17 (jm_st1 [(0, (2, 183))] 1 (0, 0)) [] ψ1 x Q)))) :
    hw sc (d + 5) 133 0 [(0, (2, 183))] [] φ x Q := by
  refine hw_ald (b := 0) (e := 0) (by decide +kernel) rfl (by decide) ?_
  refine hw_k (c := 0) (b := 0) (e := 1) (by decide +kernel) ?_
  refine hr_pi (b := 8) (e := 5) 183 rfl (by decide +kernel) ?_
  refine hw_ald (b := 0) (e := 0) (by decide +kernel) rfl (by decide) ?_
  refine hr_gr (w := 1) (b := 8) (e := 0) 183 rfl (by decide +kernel) ?_
  refine hw_k (c := 400) (b := 2) (e := 3) (by decide +kernel) ?_
  refine hr_call (a0 := 11) (b := 28) (e := 2) (nl := 2) (As := [(0, 400)]) (R := []) 1 rfl (by decide +kernel) rfl rfl (Nat.le_of_ble_eq_true rfl) (Nat.le_of_ble_eq_true rfl) ?_
  refine hw_mono H ?_
  rintro r ψ1 y1 ⟨hyx, hr, H⟩
  subst hyx
  subst hr
  refine ⟨hnen, ?_⟩
  show hw sc (d + 5) 133 15 [(0, (2, 183))] [] ψ1 y1 Q
  refine hw_k (c := 0) (b := 0) (e := 1) (by decide +kernel) ?_
  refine hw_st (L' := (jm_st1 [(0, (2, 183))] 1 (0, 0))) (b := 1) (e := 0) (by decide +kernel) rfl ?_
  exact H
theorem sf_133_183 {sc : List Int} {d : Nat} {φ : hf_F} {x : Nat} {Q : Option jm_V → hf_F → Nat → Prop}  (hI : Inv φ)  (hQ : ∀ (r : Int) (ψ : hf_F), Inv ψ → Fr [184, 185, 186, 2003, 2004, 2005, 2006, 2007, 2008, 2009, 2010, 184005] φ ψ → 0 ≤ r ∧ r ≤ 1 → F_BookText_readAll_183 φ = (r, ψ) → Q (some (0, r)) ψ x) : hw sc (d + 5) 133 0 [(0, (2, 183))] [] φ x Q := by
  apply sf_133_183_v
  have e0 : F_BookText_readAll_183 φ = _ := rfl
  have i1 : Inv (hf_up φ 183 5 0) := iv_bk0 hI
  have r1 : Fr [184, 185, 186, 2003, 2004, 2005, 2006, 2007, 2008, 2009, 2010, 184005] φ (hf_up φ 183 5 0) := fr_up (fr_rf) (by decide)
  refine sf_28_1 (φ := (hf_up φ 183 5 0)) i1 (by omega) (by omega) (fun ψ1 hI1 hF1 hE1 => ⟨rfl, rfl, ?_⟩)
  have hG1 : Fr [184, 185, 186, 2003, 2004, 2005, 2006, 2007, 2008, 2009, 2010, 184005] φ ψ1 := fr_tr r1 hF1 (by decide)
  have e1 := e0.trans (bnv_e hE1)
  exact sf_133_183_l17 ((41 - 0 : Int).toNat + 1) ψ1 (jm_st1 [(0, (2, 183))] 1 (0, 0)) 0 (get_st1 rfl (by decide) (fun q => tg2 q.2)) get_st1e hI1 (by omega) (by omega) (by omega) (fun rr χ hIχ hFχ hpχ hEχ => hQ rr χ hIχ (fr_tr hG1 hFχ (by decide)) hpχ (e1.trans hEχ))
theorem sf_141_43_v {sc : List Int} {d : Nat} {φ : hf_F} {x : Nat} {Q : Option jm_V → hf_F → Nat → Prop} {v0 v1 : Int}
    (H : hw sc d 79 0 [(0, (2, 43)), (1, (0, v0)), (2, (0, v1))] [] φ x (fun r ψ1 y1 => y1 = x ∧ φ = ψ1 ∧ (∃ z1 : Int, r = some (0, z1) ∧ (hi z1 ∧ (¬ z1 = 0 → Q (some (0, z1)) φ x) ∧ (¬ (¬ z1 = 0) → hw sc d 52 0 [(0, (2, 43)), (1, (0, v0)), (2, (0, v1))] [] φ x (fun r ψ4 y4 => y4 = x ∧ (r = none ∧ (Q (some (0, z1)) ψ4 x)))))))) :
    hw sc (d + 1) 141 0 [(0, (0, v0)), (1, (0, v1)), (2, (2, 43))] [] φ x Q := by
  refine hw_ald (b := 2) (e := 0) (by decide +kernel) rfl (by decide) ?_
  refine hw_ld (b := 0) (e := 0) (by decide +kernel) rfl ?_
  refine hw_ld (b := 1) (e := 0) (by decide +kernel) rfl ?_
  refine hr_call (a0 := 14) (b := 79) (e := 3) (nl := 3) (As := [(0, v0), (0, v1)]) (R := []) 43 rfl (by decide +kernel) rfl rfl (Nat.le_of_ble_eq_true rfl) (Nat.le_of_ble_eq_true rfl) ?_
  refine hw_mono H ?_
  rintro r ψ1 y1 ⟨hyx, hψx, z1, hr, H⟩
  subst hyx
  subst hψx
  subst hr
  refine ⟨hne0, ?_⟩
  show hw sc (d + 1) 141 6 [(0, (0, v0)), (1, (0, v1)), (2, (2, 43))] [(0, z1)] φ y1 Q
  refine hw_st (L' := (jm_st1 [(0, (0, v0)), (1, (0, v1)), (2, (2, 43))] 3 (0, z1))) (b := 3) (e := 0) (by decide +kernel) rfl ?_
  refine hw_ld (b := 3) (e := 0) (by decide +kernel) get_st1e ?_
  obtain ⟨hz2, ht2, hf2⟩ := H
  refine hw_if (a0 := 0) (b := 1) (e := 17) (by decide +kernel) hz2 (fun q => ?_) (fun q => ?_)
  · have H := ht2 q
    refine hw_ld (b := 3) (e := 0) (by decide +kernel) get_st1e ?_
    exact hw_ret (a0 := 0) (e := 0) (by decide +kernel) (Or.inl rfl) H
  · have H := hf2 q
    refine hw_ald (b := 2) (e := 0) (by decide +kernel) (get_st1 rfl (by decide) (fun q => tg2 q.2)) (by decide) ?_
    refine hw_ld (b := 0) (e := 0) (by decide +kernel) (get_st1 rfl (by decide) (fun q => absurd q.1 (by decide))) ?_
    refine hw_ld (b := 1) (e := 0) (by decide +kernel) (get_st1 rfl (by decide) (fun q => absurd q.1 (by decide))) ?_
    refine hr_call (a0 := 14) (b := 52) (e := 3) (nl := 3) (As := [(0, v0), (0, v1)]) (R := []) 43 rfl (by decide +kernel) rfl rfl (Nat.le_of_ble_eq_true rfl) (Nat.le_of_ble_eq_true rfl) ?_
    refine hw_mono H ?_
    rintro r ψ4 y4 ⟨hyx, hr, H⟩
    subst hyx
    subst hr
    refine ⟨hnen, ?_⟩
    show hw sc (d + 1) 141 17 (jm_st1 [(0, (0, v0)), (1, (0, v1)), (2, (2, 43))] 3 (0, z1)) [] ψ4 y4 Q
    refine hw_ld (b := 3) (e := 0) (by decide +kernel) get_st1e ?_
    exact hw_ret (a0 := 0) (e := 0) (by decide +kernel) (Or.inl rfl) H
theorem sf_141_43 {sc : List Int} {d : Nat} {φ : hf_F} {x : Nat} {Q : Option jm_V → hf_F → Nat → Prop} {v0 v1 : Int} (hI : Inv φ) (h0a : 0 ≤ v0) (h0b : v0 ≤ 5) (h1a : 0 ≤ v1) (h1b : v1 ≤ 7) (hQ : ∀ (r : Int) (ψ : hf_F), Inv ψ → Fr [45, 46] φ ψ → True → F_BookText_liveMount_43 φ v0 v1 = (r, ψ) → Q (some (0, r)) ψ x) : hw sc (d + 1) 141 0 [(0, (0, v0)), (1, (0, v1)), (2, (2, 43))] [] φ x Q := by
  apply sf_141_43_v
  have e0 : F_BookText_liveMount_43 φ v0 v1 = _ := rfl
  refine sf_79_43 (φ := φ) hI (by omega) (by omega) (by omega) (by omega) (fun z1 hp1 hE1 => ⟨rfl, rfl, z1, rfl, ?_⟩)
  have e1 := e0.trans (bnp_e hE1)
  refine ⟨by unfold hi; omega, fun q2 => ?_, fun q2 => ?_⟩
  · skip
    have e2a := e1.trans (if_pos q2)
    exact hQ z1 φ hI (fr_rf) trivial e2a
  · skip
    have e2b := e1.trans (if_neg q2)
    refine sf_52_43 (φ := φ) hI (by omega) (by omega) (by omega) (by omega) (fun ψ4 hI4 hF4 hE4 => ⟨rfl, rfl, ?_⟩)
    have hG4 : Fr [45, 46] φ ψ4 := fr_tr (fr_rf) hF4 (by decide)
    have e4 := e2b.trans (bnv_e hE4)
    exact hQ z1 ψ4 hI4 hG4 trivial e4
theorem sf_90_43_v {sc : List Int} {d : Nat} {φ : hf_F} {x : Nat} {Q : Option jm_V → hf_F → Nat → Prop} 
    (H : Q (some (0, if jm_n 0 < jm_n (1000 - (φ 43 0)) then 1000 - (φ 43 0) else 0)) φ x) :
    hw sc d 90 0 [(0, (2, 43))] [] φ x Q := by
  refine hw_k (c := 0) (b := 0) (e := 1) (by decide +kernel) ?_
  refine hw_k (c := 1000) (b := 2) (e := 3) (by decide +kernel) ?_
  refine hw_ald (b := 0) (e := 0) (by decide +kernel) rfl (by decide) ?_
  refine hr_gi (w := φ 43 0) (b := 4) (e := 0) 43 rfl (by decide +kernel) rfl ?_
  refine hw_bin (w := 1000 - (φ 43 0)) (a0 := 0) (b := 1) (e := 0) (by decide +kernel) rfl ?_
  refine hw_maxn (a0 := 0) (e := 0) (by decide +kernel) (Nat.le_of_ble_eq_true rfl) ?_
  exact hw_ret (a0 := 0) (e := 0) (by decide +kernel) (Or.inl rfl) H
theorem sf_90_43 {sc : List Int} {d : Nat} {φ : hf_F} {x : Nat} {Q : Option jm_V → hf_F → Nat → Prop}  (hI : Inv φ)  (hQ : ∀ (r : Int), True → F_State_ticksLeft_43 φ = r → Q (some (0, r)) φ x) : hw sc d 90 0 [(0, (2, 43))] [] φ x Q := by
  apply sf_90_43_v
  have e0 : F_State_ticksLeft_43 φ = _ := rfl
  have f1 := hr_n (1000 - (φ 43 0))
  have f2 := hr_n 0
  have f3 := hi_n (z := 0) (by unfold hi; omega)
  have f_m1 := hr_maxn 0 (1000 - (φ 43 0))
  exact hQ (if jm_n 0 < jm_n (1000 - (φ 43 0)) then 1000 - (φ 43 0) else 0) trivial e0
theorem sf_142_183_43_v13 {sc : List Int} {d : Nat} {φ : hf_F} {x : Nat} {Q : Option jm_V → hf_F → Nat → Prop} {L : jm_L} {l1 l3 : Int} (g0 : jm_get L 0 = some (2, 183)) (g1 : jm_get L 1 = some (0, l1)) (g2 : jm_get L 2 = some (2, 43)) (g3 : jm_get L 3 = some (0, l3))
    (H : hi l3 ∧ hi l1 ∧ (l1 ≤ l3 → Q (some (0, 0)) φ x) ∧ (¬ l1 ≤ l3 → hw sc (d + 2) 91 0 [(0, (2, 43)), (1, (2, 5))] [] φ x (fun r ψ3 y3 => y3 = x ∧ (r = none ∧ (hw sc (d + 3) 142 13 (jm_st1 L 3 (0, l3 + 1)) [] ψ3 x Q))))) :
    hw sc (d + 3) 142 13 L [] φ x Q := by
  refine hw_ld (b := 3) (e := 0) (by decide +kernel) g3 ?_
  refine hw_ld (b := 1) (e := 0) (by decide +kernel) g1 ?_
  obtain ⟨hz1, hy1, ht1, hf1⟩ := H
  refine hw_if2 (a0 := 0) (b := 3) (e := 32) (by decide +kernel) hz1 hy1 (fun q => ?_) (fun q => ?_)
  · have H := ht1 q
    refine hw_k (c := 0) (b := 0) (e := 1) (by decide +kernel) ?_
    exact hw_ret (a0 := 0) (e := 0) (by decide +kernel) (Or.inl rfl) H
  · have H := hf1 q
    refine hw_ald (b := 2) (e := 0) (by decide +kernel) g2 (by decide) ?_
    refine hw_ald (b := 0) (e := 0) (by decide +kernel) g0 (by decide) ?_
    refine hr_gr (w := 5) (b := 8) (e := 1) 183 rfl (by decide +kernel) ?_
    refine hr_call (a0 := 14) (b := 91) (e := 2) (nl := 6) (As := [(2, 5)]) (R := []) 43 rfl (by decide +kernel) rfl rfl (Nat.le_of_ble_eq_true rfl) (Nat.le_of_ble_eq_true rfl) ?_
    refine hw_mono H ?_
    rintro r ψ3 y3 ⟨hyx, hr, H⟩
    subst hyx
    subst hr
    refine ⟨hnen, ?_⟩
    show hw sc (d + 3) 142 26 L [] ψ3 y3 Q
    refine hw_inc (L' := (jm_st1 L 3 (0, l3 + 1))) (c := 1) (b := 3) (e := 0) (by decide +kernel) g3 rfl ?_
    refine hw_goto (a0 := 0) (b := 0) (e := 13) (by decide +kernel) ?_
    exact H
theorem sf_142_183_43_l13 {sc : List Int} {d x : Nat} {Q : Option jm_V → hf_F → Nat → Prop} : ∀ (n : Nat) (φ : hf_F) (L : jm_L) (l1 l3 : Int), jm_get L 0 = some (2, 183) → jm_get L 1 = some (0, l1) → jm_get L 2 = some (2, 43) → jm_get L 3 = some (0, l3) → Inv φ → 60 - l3 < (n : Int) → (-1 : Int) ≤ l1 → l1 ≤ 60 → 0 ≤ l3 → l3 ≤ 60 → (∀ (r : Int) (ψ : hf_F), Inv ψ → Fr [44, 49, 50, 51, 44000, 44001, 44002, 44003, 44004] φ ψ → True → F_BookText_liveTicks_183_43_l13 n φ l1 l3 = (r, ψ) → Q (some (0, r)) ψ x) → hw sc (d + 3) 142 13 L [] φ x Q := by
  intro n
  induction n with
  | zero =>
    intro φ L l1 l3 g0 g1 g2 g3 hI hM b1a b1b b3a b3b hQ
    exfalso
    omega
  | succ n ih =>
    intro φ L l1 l3 g0 g1 g2 g3 hI hM b1a b1b b3a b3b hQ
    refine sf_142_183_43_v13 g0 g1 g2 g3 ?_
    have e0 := F_BookText_liveTicks_183_43_l13_s (φ := φ) (l1 := l1) (l3 := l3) n
    refine ⟨by unfold hi; omega, by unfold hi; omega, fun q1 => ?_, fun q1 => ?_⟩
    · skip
      have e1a := e0.trans (if_pos q1)
      exact hQ 0 φ hI (fr_rf) trivial e1a
    · skip
      have e1b := e0.trans (if_neg q1)
      refine sf_91_43_5 (φ := φ) hI  (fun ψ3 hI3 hF3 hE3 => ⟨rfl, rfl, ?_⟩)
      have hG3 : Fr [44, 49, 50, 51, 44000, 44001, 44002, 44003, 44004] φ ψ3 := fr_tr (fr_rf) hF3 (by decide)
      have e3 := e1b.trans (bnv_e hE3)
      exact ih ψ3 (jm_st1 L 3 (0, l3 + 1)) l1 (l3 + 1) (get_st1 g0 (by decide) (fun q => absurd q.1 (by decide))) (get_st1 g1 (by decide) (fun q => absurd q.1 (by decide))) (get_st1 g2 (by decide) (fun q => tg2 q.2)) get_st1e hI3 (by omega) (by omega) (by omega) (by omega) (by omega) (fun rr χ hIχ hFχ hpχ hEχ => hQ rr χ hIχ (fr_tr hG3 hFχ (by decide)) hpχ (e3.trans hEχ))
theorem sf_142_183_43_v {sc : List Int} {d : Nat} {φ : hf_F} {x : Nat} {Q : Option jm_V → hf_F → Nat → Prop} {v1 : Int}
    (H : hw sc (d + 2) 90 0 [(0, (2, 43))] [] φ x (fun r ψ1 y1 => y1 = x ∧ φ = ψ1 ∧ (∃ z1 : Int, r = some (0, z1) ∧ (hi v1 ∧ (v1 ≤ (jm_n z1) → hw sc (d + 3) 142 13 (jm_st1 [(0, (2, 183)), (1, (0, v1)), (2, (2, 43))] 3 (0, 0)) [] φ x Q) ∧ (¬ v1 ≤ (jm_n z1) → Q (some (0, 41)) φ x))))) :
    hw sc (d + 3) 142 0 [(0, (2, 183)), (1, (0, v1)), (2, (2, 43))] [] φ x Q := by
  refine hw_ald (b := 2) (e := 0) (by decide +kernel) rfl (by decide) ?_
  refine hr_call (a0 := 14) (b := 90) (e := 1) (nl := 1) (As := []) (R := []) 43 rfl (by decide +kernel) rfl rfl (Nat.le_of_ble_eq_true rfl) (Nat.le_of_ble_eq_true rfl) ?_
  refine hw_mono H ?_
  rintro r ψ1 y1 ⟨hyx, hψx, z1, hr, H⟩
  subst hyx
  subst hψx
  subst hr
  refine ⟨hne0, ?_⟩
  show hw sc (d + 3) 142 4 [(0, (2, 183)), (1, (0, v1)), (2, (2, 43))] [(0, z1)] φ y1 Q
  refine hw_ld (b := 1) (e := 0) (by decide +kernel) rfl ?_
  obtain ⟨hz2, ht2, hf2⟩ := H
  refine hw_if2l (a0 := 0) (b := 3) (e := 11) (by decide +kernel) hz2 (fun q => ?_) (fun q => ?_)
  · have H := ht2 q
    refine hw_k (c := 0) (b := 0) (e := 1) (by decide +kernel) ?_
    refine hw_st (L' := (jm_st1 [(0, (2, 183)), (1, (0, v1)), (2, (2, 43))] 3 (0, 0))) (b := 3) (e := 0) (by decide +kernel) rfl ?_
    exact H
  · have H := hf2 q
    refine hw_k (c := 41) (b := 1) (e := 2) (by decide +kernel) ?_
    exact hw_ret (a0 := 0) (e := 0) (by decide +kernel) (Or.inl rfl) H
theorem sf_142_183_43 {sc : List Int} {d : Nat} {φ : hf_F} {x : Nat} {Q : Option jm_V → hf_F → Nat → Prop} {v1 : Int} (hI : Inv φ) (h1a : (-1 : Int) ≤ v1) (h1b : v1 ≤ 60) (hQ : ∀ (r : Int) (ψ : hf_F), Inv ψ → Fr [44, 49, 50, 51, 44000, 44001, 44002, 44003, 44004] φ ψ → True → F_BookText_liveTicks_183_43 φ v1 = (r, ψ) → Q (some (0, r)) ψ x) : hw sc (d + 3) 142 0 [(0, (2, 183)), (1, (0, v1)), (2, (2, 43))] [] φ x Q := by
  apply sf_142_183_43_v
  have e0 : F_BookText_liveTicks_183_43 φ v1 = _ := rfl
  refine sf_90_43 (φ := φ) hI  (fun z1 hp1 hE1 => ⟨rfl, rfl, z1, rfl, ?_⟩)
  have e1 := e0.trans (bnp_e hE1)
  have f1 := hr_n z1
  refine ⟨by unfold hi; omega, fun q2 => ?_, fun q2 => ?_⟩
  · skip
    have e2a := e1.trans (if_pos q2)
    exact sf_142_183_43_l13 ((60 - 0 : Int).toNat + 1) φ (jm_st1 [(0, (2, 183)), (1, (0, v1)), (2, (2, 43))] 3 (0, 0)) v1 0 (get_st1 rfl (by decide) (fun q => absurd q.1 (by decide))) (get_st1 rfl (by decide) (fun q => absurd q.1 (by decide))) (get_st1 rfl (by decide) (fun q => tg2 q.2)) get_st1e hI (by omega) (by omega) (by omega) (by omega) (by omega) (fun rr χ hIχ hFχ hpχ hEχ => hQ rr χ hIχ (fr_tr (fr_rf) hFχ (by decide)) hpχ (e2a.trans hEχ))
  · skip
    have e2b := e1.trans (if_neg q2)
    exact hQ 41 φ hI (fr_rf) trivial e2b
theorem sf_140_183_43_v {sc : List Int} {d : Nat} {φ : hf_F} {x : Nat} {Q : Option jm_V → hf_F → Nat → Prop} {v1 : Int}
    (H : 0 ≤ v1 ∧ v1 < 40 ∧ (hi (φ 184 ((v1).toNat)) ∧ ((φ 184 ((v1).toNat)) = 7 → 0 ≤ v1 ∧ v1 < 40 ∧ (0 ≤ v1 ∧ v1 < 40 ∧ (hw sc (d + 3) 141 0 [(0, (0, φ 185 ((v1).toNat))), (1, (0, φ 186 ((v1).toNat))), (2, (2, 43))] [] φ x (fun r ψ5 y5 => y5 = x ∧ (∃ z5 : Int, r = some (0, z5) ∧ (Q (some (0, z5)) ψ5 x)))))) ∧ ((φ 184 ((v1).toNat)) = 8 → 0 ≤ v1 ∧ v1 < 40 ∧ (hw sc (d + 3) 83 0 [(0, (2, 43)), (1, (0, φ 185 ((v1).toNat)))] [] φ x (fun r ψ8 y8 => y8 = x ∧ φ = ψ8 ∧ (∃ z8 : Int, r = some (0, z8) ∧ (hi z8 ∧ (z8 = 0 → 0 ≤ v1 ∧ v1 < 40 ∧ (hw sc (d + 3) 84 0 [(0, (2, 43)), (1, (0, φ 185 ((v1).toNat)))] [] φ x (fun r ψ11 y11 => y11 = x ∧ (r = none ∧ (Q (some (0, 0)) ψ11 x))))) ∧ (¬ z8 = 0 → 0 ≤ v1 ∧ v1 < 40 ∧ (hw sc (d + 3) 83 0 [(0, (2, 43)), (1, (0, φ 185 ((v1).toNat)))] [] φ x (fun r ψ14 y14 => y14 = x ∧ φ = ψ14 ∧ (∃ z14 : Int, r = some (0, z14) ∧ (Q (some (0, 10 + z14)) φ x)))))))))) ∧ ((φ 184 ((v1).toNat)) = 9 → 0 ≤ v1 ∧ v1 < 40 ∧ (hw sc (d + 3) 54 0 [(0, (2, 43)), (1, (0, φ 185 ((v1).toNat)))] [] φ x (fun r ψ17 y17 => y17 = x ∧ φ = ψ17 ∧ (∃ z17 : Int, r = some (0, z17) ∧ (hi z17 ∧ (z17 = 0 → 0 ≤ v1 ∧ v1 < 40 ∧ (0 ≤ v1 ∧ v1 < 40 ∧ (hw sc (d + 3) 55 0 [(0, (2, 43)), (1, (0, φ 185 ((v1).toNat))), (2, (0, φ 186 ((v1).toNat)))] [] φ x (fun r ψ21 y21 => y21 = x ∧ (r = none ∧ (Q (some (0, 0)) ψ21 x)))))) ∧ (¬ z17 = 0 → 0 ≤ v1 ∧ v1 < 40 ∧ (hw sc (d + 3) 54 0 [(0, (2, 43)), (1, (0, φ 185 ((v1).toNat)))] [] φ x (fun r ψ24 y24 => y24 = x ∧ φ = ψ24 ∧ (∃ z24 : Int, r = some (0, z24) ∧ (Q (some (0, 20 + z24)) φ x)))))))))) ∧ ((φ 184 ((v1).toNat)) = 10 → hw sc (d + 3) 87 0 [(0, (2, 43))] [] φ x (fun r ψ26 y26 => y26 = x ∧ φ = ψ26 ∧ (∃ z26 : Int, r = some (0, z26) ∧ (hi z26 ∧ (z26 = 0 → hw sc (d + 3) 88 0 [(0, (2, 43))] [] φ x (fun r ψ28 y28 => y28 = x ∧ (r = none ∧ (Q (some (0, 0)) ψ28 x)))) ∧ (¬ z26 = 0 → hw sc (d + 3) 87 0 [(0, (2, 43))] [] φ x (fun r ψ30 y30 => y30 = x ∧ φ = ψ30 ∧ (∃ z30 : Int, r = some (0, z30) ∧ (Q (some (0, 30 + z30)) φ x)))))))) ∧ (((φ 184 ((v1).toNat)) < 7 ∨ 11 ≤ (φ 184 ((v1).toNat))) → 0 ≤ v1 ∧ v1 < 40 ∧ (hw sc (d + 3) 142 0 [(0, (2, 183)), (1, (0, φ 186 ((v1).toNat))), (2, (2, 43))] [] φ x (fun r ψ33 y33 => y33 = x ∧ (∃ z33 : Int, r = some (0, z33) ∧ (Q (some (0, z33)) ψ33 x))))))) :
    hw sc (d + 4) 140 0 [(0, (2, 183)), (1, (0, v1)), (2, (2, 43))] [] φ x Q := by
  refine hw_ald (b := 0) (e := 0) (by decide +kernel) rfl (by decide) ?_
  refine hr_gr (w := 184) (b := 8) (e := 2) 183 rfl (by decide +kernel) ?_
  refine hw_ld (b := 1) (e := 0) (by decide +kernel) rfl ?_
  obtain ⟨hl1, hu1, H⟩ := H
  refine hr_al (b := 0) (a0 := 0) (e := 0) (n := 40) (w := φ 184 ((v1).toNat)) 184 rfl (by decide +kernel) (by decide) hl1 hu1 rfl ?_
  obtain ⟨hz2, H⟩ := H
  refine hr_tsw (T := [36, 53, 92, 137]) (lo := 7) (nn := 11) (b := 158) (e := 4) (by decide +kernel) rfl hz2 ?_ ?_
  · intro q
    have H := H.2.2.2.2 q
    refine hw_ald (b := 0) (e := 0) (by decide +kernel) rfl (by decide) ?_
    refine hw_ald (b := 0) (e := 0) (by decide +kernel) rfl (by decide) ?_
    refine hr_gr (w := 186) (b := 8) (e := 4) 183 rfl (by decide +kernel) ?_
    refine hw_ld (b := 1) (e := 0) (by decide +kernel) rfl ?_
    obtain ⟨hl32, hu32, H⟩ := H
    refine hr_al (b := 0) (a0 := 0) (e := 0) (n := 40) (w := φ 186 ((v1).toNat)) 186 rfl (by decide +kernel) (by decide) hl32 hu32 rfl ?_
    refine hw_ald (b := 2) (e := 0) (by decide +kernel) rfl (by decide) ?_
    refine hr_call (a0 := 18) (b := 142) (e := 3) (nl := 4) (As := [(0, φ 186 ((v1).toNat)), (2, 43)]) (R := []) 183 rfl (by decide +kernel) rfl rfl (Nat.le_of_ble_eq_true rfl) (Nat.le_of_ble_eq_true rfl) ?_
    refine hw_mono H ?_
    rintro r ψ33 y33 ⟨hyx, z33, hr, H⟩
    subst hyx
    subst hr
    refine ⟨hne0, ?_⟩
    show hw sc (d + 4) 140 169 [(0, (2, 183)), (1, (0, v1)), (2, (2, 43))] [(0, z33)] ψ33 y33 Q
    exact hw_ret (a0 := 0) (e := 0) (by decide +kernel) (Or.inl rfl) H
  · intro kq tq htq hzq
    match kq, htq, hzq with
    | 0, htq, hzq =>
      cases htq
      have H := H.1 (by omega)
      refine hw_ald (b := 0) (e := 0) (by decide +kernel) rfl (by decide) ?_
      refine hr_gr (w := 185) (b := 8) (e := 3) 183 rfl (by decide +kernel) ?_
      refine hw_ld (b := 1) (e := 0) (by decide +kernel) rfl ?_
      obtain ⟨hl3, hu3, H⟩ := H
      refine hr_al (b := 0) (a0 := 0) (e := 0) (n := 40) (w := φ 185 ((v1).toNat)) 185 rfl (by decide +kernel) (by decide) hl3 hu3 rfl ?_
      refine hw_ald (b := 0) (e := 0) (by decide +kernel) rfl (by decide) ?_
      refine hr_gr (w := 186) (b := 8) (e := 4) 183 rfl (by decide +kernel) ?_
      refine hw_ld (b := 1) (e := 0) (by decide +kernel) rfl ?_
      obtain ⟨hl4, hu4, H⟩ := H
      refine hr_al (b := 0) (a0 := 0) (e := 0) (n := 40) (w := φ 186 ((v1).toNat)) 186 rfl (by decide +kernel) (by decide) hl4 hu4 rfl ?_
      refine hw_ald (b := 2) (e := 0) (by decide +kernel) rfl (by decide) ?_
      refine hr_calls (b := 141) (e := 3) (nl := 4) (As := [(0, φ 185 ((v1).toNat)), (0, φ 186 ((v1).toNat)), (2, 43)]) (R := []) (by decide +kernel) rfl rfl (Nat.le_of_ble_eq_true rfl) (Nat.le_of_ble_eq_true rfl) ?_
      refine hw_mono H ?_
      rintro r ψ5 y5 ⟨hyx, z5, hr, H⟩
      subst hyx
      subst hr
      refine ⟨hne0, ?_⟩
      show hw sc (d + 4) 140 52 [(0, (2, 183)), (1, (0, v1)), (2, (2, 43))] [(0, z5)] ψ5 y5 Q
      exact hw_ret (a0 := 0) (e := 0) (by decide +kernel) (Or.inl rfl) H
    | 1, htq, hzq =>
      cases htq
      have H := H.2.1 (by omega)
      refine hw_ald (b := 2) (e := 0) (by decide +kernel) rfl (by decide) ?_
      refine hw_ald (b := 0) (e := 0) (by decide +kernel) rfl (by decide) ?_
      refine hr_gr (w := 185) (b := 8) (e := 3) 183 rfl (by decide +kernel) ?_
      refine hw_ld (b := 1) (e := 0) (by decide +kernel) rfl ?_
      obtain ⟨hl7, hu7, H⟩ := H
      refine hr_al (b := 0) (a0 := 0) (e := 0) (n := 40) (w := φ 185 ((v1).toNat)) 185 rfl (by decide +kernel) (by decide) hl7 hu7 rfl ?_
      refine hr_call (a0 := 14) (b := 83) (e := 2) (nl := 2) (As := [(0, φ 185 ((v1).toNat))]) (R := []) 43 rfl (by decide +kernel) rfl rfl (Nat.le_of_ble_eq_true rfl) (Nat.le_of_ble_eq_true rfl) ?_
      refine hw_mono H ?_
      rintro r ψ8 y8 ⟨hyx, hψx, z8, hr, H⟩
      subst hyx
      subst hψx
      subst hr
      refine ⟨hne0, ?_⟩
      show hw sc (d + 4) 140 63 [(0, (2, 183)), (1, (0, v1)), (2, (2, 43))] [(0, z8)] φ y8 Q
      obtain ⟨hz9, ht9, hf9⟩ := H
      refine hw_if (a0 := 0) (b := 0) (e := 80) (by decide +kernel) hz9 (fun q => ?_) (fun q => ?_)
      · have H := ht9 q
        refine hw_ald (b := 2) (e := 0) (by decide +kernel) rfl (by decide) ?_
        refine hw_ald (b := 0) (e := 0) (by decide +kernel) rfl (by decide) ?_
        refine hr_gr (w := 185) (b := 8) (e := 3) 183 rfl (by decide +kernel) ?_
        refine hw_ld (b := 1) (e := 0) (by decide +kernel) rfl ?_
        obtain ⟨hl10, hu10, H⟩ := H
        refine hr_al (b := 0) (a0 := 0) (e := 0) (n := 40) (w := φ 185 ((v1).toNat)) 185 rfl (by decide +kernel) (by decide) hl10 hu10 rfl ?_
        refine hr_call (a0 := 14) (b := 84) (e := 2) (nl := 3) (As := [(0, φ 185 ((v1).toNat))]) (R := []) 43 rfl (by decide +kernel) rfl rfl (Nat.le_of_ble_eq_true rfl) (Nat.le_of_ble_eq_true rfl) ?_
        refine hw_mono H ?_
        rintro r ψ11 y11 ⟨hyx, hr, H⟩
        subst hyx
        subst hr
        refine ⟨hnen, ?_⟩
        show hw sc (d + 4) 140 90 [(0, (2, 183)), (1, (0, v1)), (2, (2, 43))] [] ψ11 y11 Q
        refine hw_k (c := 0) (b := 0) (e := 1) (by decide +kernel) ?_
        exact hw_ret (a0 := 0) (e := 0) (by decide +kernel) (Or.inl rfl) H
      · have H := hf9 q
        refine hw_k (c := 10) (b := 1) (e := 2) (by decide +kernel) ?_
        refine hw_ald (b := 2) (e := 0) (by decide +kernel) rfl (by decide) ?_
        refine hw_ald (b := 0) (e := 0) (by decide +kernel) rfl (by decide) ?_
        refine hr_gr (w := 185) (b := 8) (e := 3) 183 rfl (by decide +kernel) ?_
        refine hw_ld (b := 1) (e := 0) (by decide +kernel) rfl ?_
        obtain ⟨hl13, hu13, H⟩ := H
        refine hr_al (b := 0) (a0 := 0) (e := 0) (n := 40) (w := φ 185 ((v1).toNat)) 185 rfl (by decide +kernel) (by decide) hl13 hu13 rfl ?_
        refine hr_call (a0 := 14) (b := 83) (e := 2) (nl := 2) (As := [(0, φ 185 ((v1).toNat))]) (R := [(0, 10)]) 43 rfl (by decide +kernel) rfl rfl (Nat.le_of_ble_eq_true rfl) (Nat.le_of_ble_eq_true rfl) ?_
        refine hw_mono H ?_
        rintro r ψ14 y14 ⟨hyx, hψx, z14, hr, H⟩
        subst hyx
        subst hψx
        subst hr
        refine ⟨hne0, ?_⟩
        show hw sc (d + 4) 140 78 [(0, (2, 183)), (1, (0, v1)), (2, (2, 43))] [(0, z14), (0, 10)] φ y14 Q
        refine hw_bin (w := 10 + z14) (a0 := 0) (b := 0) (e := 0) (by decide +kernel) rfl ?_
        exact hw_ret (a0 := 0) (e := 0) (by decide +kernel) (Or.inl rfl) H
    | 2, htq, hzq =>
      cases htq
      have H := H.2.2.1 (by omega)
      refine hw_ald (b := 2) (e := 0) (by decide +kernel) rfl (by decide) ?_
      refine hw_ald (b := 0) (e := 0) (by decide +kernel) rfl (by decide) ?_
      refine hr_gr (w := 185) (b := 8) (e := 3) 183 rfl (by decide +kernel) ?_
      refine hw_ld (b := 1) (e := 0) (by decide +kernel) rfl ?_
      obtain ⟨hl16, hu16, H⟩ := H
      refine hr_al (b := 0) (a0 := 0) (e := 0) (n := 40) (w := φ 185 ((v1).toNat)) 185 rfl (by decide +kernel) (by decide) hl16 hu16 rfl ?_
      refine hr_call (a0 := 14) (b := 54) (e := 2) (nl := 2) (As := [(0, φ 185 ((v1).toNat))]) (R := []) 43 rfl (by decide +kernel) rfl rfl (Nat.le_of_ble_eq_true rfl) (Nat.le_of_ble_eq_true rfl) ?_
      refine hw_mono H ?_
      rintro r ψ17 y17 ⟨hyx, hψx, z17, hr, H⟩
      subst hyx
      subst hψx
      subst hr
      refine ⟨hne0, ?_⟩
      show hw sc (d + 4) 140 102 [(0, (2, 183)), (1, (0, v1)), (2, (2, 43))] [(0, z17)] φ y17 Q
      obtain ⟨hz18, ht18, hf18⟩ := H
      refine hw_if (a0 := 0) (b := 0) (e := 119) (by decide +kernel) hz18 (fun q => ?_) (fun q => ?_)
      · have H := ht18 q
        refine hw_ald (b := 2) (e := 0) (by decide +kernel) rfl (by decide) ?_
        refine hw_ald (b := 0) (e := 0) (by decide +kernel) rfl (by decide) ?_
        refine hr_gr (w := 185) (b := 8) (e := 3) 183 rfl (by decide +kernel) ?_
        refine hw_ld (b := 1) (e := 0) (by decide +kernel) rfl ?_
        obtain ⟨hl19, hu19, H⟩ := H
        refine hr_al (b := 0) (a0 := 0) (e := 0) (n := 40) (w := φ 185 ((v1).toNat)) 185 rfl (by decide +kernel) (by decide) hl19 hu19 rfl ?_
        refine hw_ald (b := 0) (e := 0) (by decide +kernel) rfl (by decide) ?_
        refine hr_gr (w := 186) (b := 8) (e := 4) 183 rfl (by decide +kernel) ?_
        refine hw_ld (b := 1) (e := 0) (by decide +kernel) rfl ?_
        obtain ⟨hl20, hu20, H⟩ := H
        refine hr_al (b := 0) (a0 := 0) (e := 0) (n := 40) (w := φ 186 ((v1).toNat)) 186 rfl (by decide +kernel) (by decide) hl20 hu20 rfl ?_
        refine hr_call (a0 := 14) (b := 55) (e := 3) (nl := 3) (As := [(0, φ 185 ((v1).toNat)), (0, φ 186 ((v1).toNat))]) (R := []) 43 rfl (by decide +kernel) rfl rfl (Nat.le_of_ble_eq_true rfl) (Nat.le_of_ble_eq_true rfl) ?_
        refine hw_mono H ?_
        rintro r ψ21 y21 ⟨hyx, hr, H⟩
        subst hyx
        subst hr
        refine ⟨hnen, ?_⟩
        show hw sc (d + 4) 140 135 [(0, (2, 183)), (1, (0, v1)), (2, (2, 43))] [] ψ21 y21 Q
        refine hw_k (c := 0) (b := 0) (e := 1) (by decide +kernel) ?_
        exact hw_ret (a0 := 0) (e := 0) (by decide +kernel) (Or.inl rfl) H
      · have H := hf18 q
        refine hw_k (c := 20) (b := 1) (e := 2) (by decide +kernel) ?_
        refine hw_ald (b := 2) (e := 0) (by decide +kernel) rfl (by decide) ?_
        refine hw_ald (b := 0) (e := 0) (by decide +kernel) rfl (by decide) ?_
        refine hr_gr (w := 185) (b := 8) (e := 3) 183 rfl (by decide +kernel) ?_
        refine hw_ld (b := 1) (e := 0) (by decide +kernel) rfl ?_
        obtain ⟨hl23, hu23, H⟩ := H
        refine hr_al (b := 0) (a0 := 0) (e := 0) (n := 40) (w := φ 185 ((v1).toNat)) 185 rfl (by decide +kernel) (by decide) hl23 hu23 rfl ?_
        refine hr_call (a0 := 14) (b := 54) (e := 2) (nl := 2) (As := [(0, φ 185 ((v1).toNat))]) (R := [(0, 20)]) 43 rfl (by decide +kernel) rfl rfl (Nat.le_of_ble_eq_true rfl) (Nat.le_of_ble_eq_true rfl) ?_
        refine hw_mono H ?_
        rintro r ψ24 y24 ⟨hyx, hψx, z24, hr, H⟩
        subst hyx
        subst hψx
        subst hr
        refine ⟨hne0, ?_⟩
        show hw sc (d + 4) 140 117 [(0, (2, 183)), (1, (0, v1)), (2, (2, 43))] [(0, z24), (0, 20)] φ y24 Q
        refine hw_bin (w := 20 + z24) (a0 := 0) (b := 0) (e := 0) (by decide +kernel) rfl ?_
        exact hw_ret (a0 := 0) (e := 0) (by decide +kernel) (Or.inl rfl) H
    | 3, htq, hzq =>
      cases htq
      have H := H.2.2.2.1 (by omega)
      refine hw_ald (b := 2) (e := 0) (by decide +kernel) rfl (by decide) ?_
      refine hr_call (a0 := 14) (b := 87) (e := 1) (nl := 1) (As := []) (R := []) 43 rfl (by decide +kernel) rfl rfl (Nat.le_of_ble_eq_true rfl) (Nat.le_of_ble_eq_true rfl) ?_
      refine hw_mono H ?_
      rintro r ψ26 y26 ⟨hyx, hψx, z26, hr, H⟩
      subst hyx
      subst hψx
      subst hr
      refine ⟨hne0, ?_⟩
      show hw sc (d + 4) 140 141 [(0, (2, 183)), (1, (0, v1)), (2, (2, 43))] [(0, z26)] φ y26 Q
      obtain ⟨hz27, ht27, hf27⟩ := H
      refine hw_if (a0 := 0) (b := 0) (e := 152) (by decide +kernel) hz27 (fun q => ?_) (fun q => ?_)
      · have H := ht27 q
        refine hw_ald (b := 2) (e := 0) (by decide +kernel) rfl (by decide) ?_
        refine hr_call (a0 := 14) (b := 88) (e := 1) (nl := 1) (As := []) (R := []) 43 rfl (by decide +kernel) rfl rfl (Nat.le_of_ble_eq_true rfl) (Nat.le_of_ble_eq_true rfl) ?_
        refine hw_mono H ?_
        rintro r ψ28 y28 ⟨hyx, hr, H⟩
        subst hyx
        subst hr
        refine ⟨hnen, ?_⟩
        show hw sc (d + 4) 140 156 [(0, (2, 183)), (1, (0, v1)), (2, (2, 43))] [] ψ28 y28 Q
        refine hw_k (c := 0) (b := 0) (e := 1) (by decide +kernel) ?_
        exact hw_ret (a0 := 0) (e := 0) (by decide +kernel) (Or.inl rfl) H
      · have H := hf27 q
        refine hw_k (c := 30) (b := 1) (e := 2) (by decide +kernel) ?_
        refine hw_ald (b := 2) (e := 0) (by decide +kernel) rfl (by decide) ?_
        refine hr_call (a0 := 14) (b := 87) (e := 1) (nl := 1) (As := []) (R := [(0, 30)]) 43 rfl (by decide +kernel) rfl rfl (Nat.le_of_ble_eq_true rfl) (Nat.le_of_ble_eq_true rfl) ?_
        refine hw_mono H ?_
        rintro r ψ30 y30 ⟨hyx, hψx, z30, hr, H⟩
        subst hyx
        subst hψx
        subst hr
        refine ⟨hne0, ?_⟩
        show hw sc (d + 4) 140 150 [(0, (2, 183)), (1, (0, v1)), (2, (2, 43))] [(0, z30), (0, 30)] φ y30 Q
        refine hw_bin (w := 30 + z30) (a0 := 0) (b := 0) (e := 0) (by decide +kernel) rfl ?_
        exact hw_ret (a0 := 0) (e := 0) (by decide +kernel) (Or.inl rfl) H
    | kq + 4, htq, _ => cases htq
theorem sf_140_183_43 {sc : List Int} {d : Nat} {φ : hf_F} {x : Nat} {Q : Option jm_V → hf_F → Nat → Prop} {v1 : Int} (hI : Inv φ) (h1a : 0 ≤ v1) (h1b : v1 ≤ 39) (hp0 : v1 < φ 183 5) (hQ : ∀ (r : Int) (ψ : hf_F), Inv ψ → Fr [44, 45, 46, 47, 48, 49, 50, 51, 44000, 44001, 44002, 44003, 44004, 44005] φ ψ → True → F_BookText_liveLine_183_43 φ v1 = (r, ψ) → Q (some (0, r)) ψ x) : hw sc (d + 4) 140 0 [(0, (2, 183)), (1, (0, v1)), (2, (2, 43))] [] φ x Q := by
  apply sf_140_183_43_v
  have ffm0 := bk_f hI v1
  have e0 : F_BookText_liveLine_183_43 φ v1 = _ := rfl
  refine ⟨by omega, by omega, ?_⟩
  have f1 := iv_ar (a := 184) (s := 0) (t := 40) (lo := 0) (u := 22) (z := v1) hI (by decide +kernel) (by omega) (by omega)
  refine ⟨by unfold hi; omega, fun q2 => ?_, fun q2 => ?_, fun q2 => ?_, fun q2 => ?_, fun q2 => ?_⟩
  · skip
    have e2_0 := (e0).trans (if_pos q2)
    refine ⟨by omega, by omega, ?_⟩
    have f2 := iv_ar (a := 185) (s := 0) (t := 40) (lo := (-1 : Int)) (u := 5) (z := v1) hI (by decide +kernel) (by omega) (by omega)
    refine ⟨by omega, by omega, ?_⟩
    have f3 := iv_ar (a := 186) (s := 0) (t := 40) (lo := (-1 : Int)) (u := 60) (z := v1) hI (by decide +kernel) (by omega) (by omega)
    refine sf_141_43 (φ := φ) hI (by omega) (by omega) (by omega) (by omega) (fun z5 ψ5 hI5 hF5 hp5 hE5 => ⟨rfl, z5, rfl, ?_⟩)
    have hG5 : Fr [44, 45, 46, 47, 48, 49, 50, 51, 44000, 44001, 44002, 44003, 44004, 44005] φ ψ5 := fr_tr (fr_rf) hF5 (by decide)
    have e5 := e2_0.trans (bnd_e hE5)
    exact hQ z5 ψ5 hI5 hG5 trivial e5
  · skip
    have e2_1 := ((e0).trans (if_neg (by omega))).trans (if_pos q2)
    refine ⟨by omega, by omega, ?_⟩
    have f4 := iv_ar (a := 185) (s := 0) (t := 40) (lo := (-1 : Int)) (u := 5) (z := v1) hI (by decide +kernel) (by omega) (by omega)
    refine sf_83_43 (φ := φ) hI (by omega) (by omega) (fun z8 hp8 hE8 => ⟨rfl, rfl, z8, rfl, ?_⟩)
    have e8 := e2_1.trans (bnp_e hE8)
    refine ⟨by unfold hi; omega, fun q9 => ?_, fun q9 => ?_⟩
    · skip
      have e9a := e8.trans (if_pos q9)
      refine ⟨by omega, by omega, ?_⟩
      refine sf_84_43 (φ := φ) hI (by omega) (by omega) (fun ψ11 hI11 hF11 hE11 => ⟨rfl, rfl, ?_⟩)
      have hG11 : Fr [44, 45, 46, 47, 48, 49, 50, 51, 44000, 44001, 44002, 44003, 44004, 44005] φ ψ11 := fr_tr (fr_rf) hF11 (by decide)
      have e11 := e9a.trans (bnv_e hE11)
      exact hQ 0 ψ11 hI11 hG11 trivial e11
    · skip
      have e9b := e8.trans (if_neg q9)
      refine ⟨by omega, by omega, ?_⟩
      refine sf_83_43 (φ := φ) hI (by omega) (by omega) (fun z14 hp14 hE14 => ⟨rfl, rfl, z14, rfl, ?_⟩)
      have e14 := e9b.trans (bnp_e hE14)
      exact hQ (10 + z14) φ hI (fr_rf) trivial e14
  · skip
    have e2_2 := (((e0).trans (if_neg (by omega))).trans (if_neg (by omega))).trans (if_pos q2)
    refine ⟨by omega, by omega, ?_⟩
    have f5 := iv_ar (a := 185) (s := 0) (t := 40) (lo := (-1 : Int)) (u := 5) (z := v1) hI (by decide +kernel) (by omega) (by omega)
    refine sf_54_43 (φ := φ) hI (by omega) (by omega) (fun z17 hp17 hE17 => ⟨rfl, rfl, z17, rfl, ?_⟩)
    have e17 := e2_2.trans (bnp_e hE17)
    refine ⟨by unfold hi; omega, fun q18 => ?_, fun q18 => ?_⟩
    · skip
      have e18a := e17.trans (if_pos q18)
      refine ⟨by omega, by omega, ?_⟩
      refine ⟨by omega, by omega, ?_⟩
      have f6 := iv_ar (a := 186) (s := 0) (t := 40) (lo := (-1 : Int)) (u := 60) (z := v1) hI (by decide +kernel) (by omega) (by omega)
      have f7 := iv_ar (a := 47) (s := 0) (t := 6) (lo := 0) (u := 6) (z := φ 185 ((v1).toNat)) hI (by decide +kernel) (by omega) (by omega)
      refine sf_55_43 (φ := φ) hI (by omega) (by omega) (by omega) (by omega) (by rw [show φ 47 ((φ 185 ((v1).toNat)).toNat) = φ 47 ((φ 185 ((v1).toNat)).toNat) from rfl]; constructor <;> omega) (fun ψ21 hI21 hF21 hE21 => ⟨rfl, rfl, ?_⟩)
      have hG21 : Fr [44, 45, 46, 47, 48, 49, 50, 51, 44000, 44001, 44002, 44003, 44004, 44005] φ ψ21 := fr_tr (fr_rf) hF21 (by decide)
      have e21 := e18a.trans (bnv_e hE21)
      exact hQ 0 ψ21 hI21 hG21 trivial e21
    · skip
      have e18b := e17.trans (if_neg q18)
      refine ⟨by omega, by omega, ?_⟩
      refine sf_54_43 (φ := φ) hI (by omega) (by omega) (fun z24 hp24 hE24 => ⟨rfl, rfl, z24, rfl, ?_⟩)
      have e24 := e18b.trans (bnp_e hE24)
      exact hQ (20 + z24) φ hI (fr_rf) trivial e24
  · skip
    have e2_3 := ((((e0).trans (if_neg (by omega))).trans (if_neg (by omega))).trans (if_neg (by omega))).trans (if_pos q2)
    refine sf_87_43 (φ := φ) hI  (fun z26 hp26 hE26 => ⟨rfl, rfl, z26, rfl, ?_⟩)
    have e26 := e2_3.trans (bnp_e hE26)
    refine ⟨by unfold hi; omega, fun q27 => ?_, fun q27 => ?_⟩
    · skip
      have e27a := e26.trans (if_pos q27)
      refine sf_88_43 (φ := φ) hI  (fun ψ28 hI28 hF28 hE28 => ⟨rfl, rfl, ?_⟩)
      have hG28 : Fr [44, 45, 46, 47, 48, 49, 50, 51, 44000, 44001, 44002, 44003, 44004, 44005] φ ψ28 := fr_tr (fr_rf) hF28 (by decide)
      have e28 := e27a.trans (bnv_e hE28)
      exact hQ 0 ψ28 hI28 hG28 trivial e28
    · skip
      have e27b := e26.trans (if_neg q27)
      refine sf_87_43 (φ := φ) hI  (fun z30 hp30 hE30 => ⟨rfl, rfl, z30, rfl, ?_⟩)
      have e30 := e27b.trans (bnp_e hE30)
      exact hQ (30 + z30) φ hI (fr_rf) trivial e30
  · skip
    have e2_4 := ((((e0).trans (if_neg (by omega))).trans (if_neg (by omega))).trans (if_neg (by omega))).trans (if_neg (by omega))
    refine ⟨by omega, by omega, ?_⟩
    have f8 := iv_ar (a := 186) (s := 0) (t := 40) (lo := (-1 : Int)) (u := 60) (z := v1) hI (by decide +kernel) (by omega) (by omega)
    refine sf_142_183_43 (φ := φ) hI (by omega) (by omega) (fun z33 ψ33 hI33 hF33 hp33 hE33 => ⟨rfl, z33, rfl, ?_⟩)
    have hG33 : Fr [44, 45, 46, 47, 48, 49, 50, 51, 44000, 44001, 44002, 44003, 44004, 44005] φ ψ33 := fr_tr (fr_rf) hF33 (by decide)
    have e33 := e2_4.trans (bnd_e hE33)
    exact hQ z33 ψ33 hI33 hG33 trivial e33
theorem sf_139_183_43_v9 {sc : List Int} {d : Nat} {φ : hf_F} {x : Nat} {Q : Option jm_V → hf_F → Nat → Prop} {L : jm_L} {l2 l3 : Int} (g0 : jm_get L 0 = some (2, 183)) (g1 : jm_get L 1 = some (2, 43)) (g2 : jm_get L 2 = some (0, l2)) (g3 : jm_get L 3 = some (0, l3))
    (H : hi l3 ∧ hi (φ 183 5) ∧ ((φ 183 5) ≤ l3 → Q (some (0, l2)) φ x) ∧ (¬ (φ 183 5) ≤ l3 → (¬ (jm_n l2) = 0 → Q (some (0, l2)) φ x) ∧ (¬ (¬ (jm_n l2) = 0) → hw sc (d + 4) 140 0 [(0, (2, 183)), (1, (0, l3)), (2, (2, 43))] [] φ x (fun r ψ5 y5 => y5 = x ∧ (∃ z5 : Int, r = some (0, z5) ∧ ((¬ (jm_n z5) = 0 → hw sc (d + 5) 139 9 (jm_st1 (jm_st1 L 2 (0, z5)) 3 (0, l3 + 1)) [] ψ5 x Q) ∧ (¬ (¬ (jm_n z5) = 0) → hw sc (d + 5) 139 9 (jm_st1 (jm_st1 L 2 (0, z5)) 3 (0, l3 + 1)) [] (hf_up ψ5 183 6 ((ψ5 183 6) + 1)) x Q))))))) :
    hw sc (d + 5) 139 9 L [] φ x Q := by
  refine hw_ld (b := 3) (e := 0) (by decide +kernel) g3 ?_
  refine hw_ald (b := 0) (e := 0) (by decide +kernel) g0 (by decide) ?_
  refine hr_gi (w := φ 183 5) (b := 8) (e := 5) 183 rfl (by decide +kernel) rfl ?_
  obtain ⟨hz1, hy1, ht1, hf1⟩ := H
  refine hw_if2 (a0 := 0) (b := 3) (e := 48) (by decide +kernel) hz1 hy1 (fun q => ?_) (fun q => ?_)
  · have H := ht1 q
    refine hw_ld (b := 2) (e := 0) (by decide +kernel) g2 ?_
    exact hw_ret (a0 := 0) (e := 0) (by decide +kernel) (Or.inl rfl) H
  · have H := hf1 q
    refine hw_ld (b := 2) (e := 0) (by decide +kernel) g2 ?_
    obtain ⟨ht3, hf3⟩ := H
    refine hw_ifn (a0 := 0) (b := 1) (e := 48) (by decide +kernel) (fun q => ?_) (fun q => ?_)
    · have H := ht3 q
      refine hw_ld (b := 2) (e := 0) (by decide +kernel) g2 ?_
      exact hw_ret (a0 := 0) (e := 0) (by decide +kernel) (Or.inl rfl) H
    · have H := hf3 q
      refine hw_ald (b := 0) (e := 0) (by decide +kernel) g0 (by decide) ?_
      refine hw_ld (b := 3) (e := 0) (by decide +kernel) g3 ?_
      refine hw_ald (b := 1) (e := 0) (by decide +kernel) g1 (by decide) ?_
      refine hr_call (a0 := 18) (b := 140) (e := 3) (nl := 3) (As := [(0, l3), (2, 43)]) (R := []) 183 rfl (by decide +kernel) rfl rfl (Nat.le_of_ble_eq_true rfl) (Nat.le_of_ble_eq_true rfl) ?_
      refine hw_mono H ?_
      rintro r ψ5 y5 ⟨hyx, z5, hr, H⟩
      subst hyx
      subst hr
      refine ⟨hne0, ?_⟩
      show hw sc (d + 5) 139 27 L [(0, z5)] ψ5 y5 Q
      refine hw_st (L' := (jm_st1 L 2 (0, z5))) (b := 2) (e := 0) (by decide +kernel) rfl ?_
      refine hw_ld (b := 2) (e := 0) (by decide +kernel) get_st1e ?_
      obtain ⟨ht6, hf6⟩ := H
      refine hw_ifn (a0 := 0) (b := 1) (e := 42) (by decide +kernel) (fun q => ?_) (fun q => ?_)
      · have H := ht6 q
        refine hw_inc (L' := (jm_st1 (jm_st1 L 2 (0, z5)) 3 (0, l3 + 1))) (c := 1) (b := 3) (e := 0) (by decide +kernel) (get_st1 g3 (by decide) (fun q => absurd q.1 (by decide))) rfl ?_
        refine hw_goto (a0 := 0) (b := 0) (e := 9) (by decide +kernel) ?_
        exact H
      · have H := hf6 q
        refine hw_ald (b := 0) (e := 0) (by decide +kernel) (get_st1 g0 (by decide) (fun q => absurd q.1 (by decide))) (by decide) ?_
        refine hw_dup (a0 := 0) (e := 0) (by decide +kernel) (by decide) ?_
        refine hr_gi (w := ψ5 183 6) (b := 8) (e := 6) 183 rfl (by decide +kernel) rfl ?_
        refine hw_k (c := 1) (b := 0) (e := 1) (by decide +kernel) ?_
        refine hw_bin (w := (ψ5 183 6) + 1) (a0 := 0) (b := 0) (e := 0) (by decide +kernel) rfl ?_
        refine hr_pi (b := 8) (e := 6) 183 rfl (by decide +kernel) ?_
        refine hw_inc (L' := (jm_st1 (jm_st1 L 2 (0, z5)) 3 (0, l3 + 1))) (c := 1) (b := 3) (e := 0) (by decide +kernel) (get_st1 g3 (by decide) (fun q => absurd q.1 (by decide))) rfl ?_
        refine hw_goto (a0 := 0) (b := 0) (e := 9) (by decide +kernel) ?_
        exact H
theorem sf_139_183_43_l9 {sc : List Int} {d x : Nat} {Q : Option jm_V → hf_F → Nat → Prop} : ∀ (n : Nat) (φ : hf_F) (L : jm_L) (l2 l3 : Int), jm_get L 0 = some (2, 183) → jm_get L 1 = some (2, 43) → jm_get L 2 = some (0, l2) → jm_get L 3 = some (0, l3) → Inv φ → 40 - l3 < (n : Int) → 0 ≤ l3 → l3 ≤ 40 → φ 183 6 ≤ l3 → (∀ (r : Int) (ψ : hf_F), Inv ψ → Fr [44, 45, 46, 47, 48, 49, 50, 51, 44000, 44001, 44002, 44003, 44004, 44005, 184006] φ ψ → True → F_BookText_liveOn_183_43_l9 n φ l2 l3 = (r, ψ) → Q (some (0, r)) ψ x) → hw sc (d + 5) 139 9 L [] φ x Q := by
  intro n
  induction n with
  | zero =>
    intro φ L l2 l3 g0 g1 g2 g3 hI hM b3a b3b c0 hQ
    exfalso
    omega
  | succ n ih =>
    intro φ L l2 l3 g0 g1 g2 g3 hI hM b3a b3b c0 hQ
    refine sf_139_183_43_v9 g0 g1 g2 g3 ?_
    have e0 := F_BookText_liveOn_183_43_l9_s (φ := φ) (l2 := l2) (l3 := l3) n
    have f1 := iv_at (a := 183) (k := 5) (lo := 0) (u := 40) hI (by decide +kernel)
    refine ⟨by unfold hi; omega, by unfold hi; omega, fun q1 => ?_, fun q1 => ?_⟩
    · skip
      have e1a := e0.trans (if_pos q1)
      exact hQ l2 φ hI (fr_rf) trivial e1a
    · skip
      have e1b := e0.trans (if_neg q1)
      have f2 := hr_n l2
      refine ⟨fun q3 => ?_, fun q3 => ?_⟩
      · skip
        have e3a := e1b.trans (if_pos q3)
        exact hQ l2 φ hI (fr_rf) trivial e3a
      · skip
        have e3b := e1b.trans (if_neg q3)
        refine sf_140_183_43 (φ := φ) hI (by omega) (by omega) (by omega) (fun z5 ψ5 hI5 hF5 hp5 hE5 => ⟨rfl, z5, rfl, ?_⟩)
        have hG5 : Fr [44, 45, 46, 47, 48, 49, 50, 51, 44000, 44001, 44002, 44003, 44004, 44005, 184006] φ ψ5 := fr_tr (fr_rf) hF5 (by decide)
        have e5 := e3b.trans (bnd_e hE5)
        have f3 := hr_n z5
        refine ⟨fun q6 => ?_, fun q6 => ?_⟩
        · skip
          have e6a := e5.trans (if_pos q6)
          have f4 := iv_at (a := 183) (k := 6) (lo := 0) (u := 40) hI5 (by decide +kernel)
          have f5 : ψ5 183 6 = φ 183 6 := (fr_fd hF5 183 6 (by decide))
          have f6 := iv_at (a := 183) (k := 6) (lo := 0) (u := 40) hI (by decide +kernel)
          exact ih ψ5 (jm_st1 (jm_st1 L 2 (0, z5)) 3 (0, l3 + 1)) z5 (l3 + 1) (get_st1 (get_st1 g0 (by decide) (fun q => absurd q.1 (by decide))) (by decide) (fun q => absurd q.1 (by decide))) (get_st1 (get_st1 g1 (by decide) (fun q => tg2 q.2)) (by decide) (fun q => absurd q.1 (by decide))) (get_st1 get_st1e (by decide) (fun q => tg0 q.2)) get_st1e hI5 (by omega) (by omega) (by omega) (by omega) (fun rr χ hIχ hFχ hpχ hEχ => hQ rr χ hIχ (fr_tr hG5 hFχ (by decide)) hpχ (e6a.trans hEχ))
        · skip
          have e6b := e5.trans (if_neg q6)
          have f7 := iv_at (a := 183) (k := 6) (lo := 0) (u := 40) hI5 (by decide +kernel)
          have f8 : ψ5 183 6 = φ 183 6 := (fr_fd hF5 183 6 (by decide))
          have f9 := iv_at (a := 183) (k := 6) (lo := 0) (u := 40) hI (by decide +kernel)
          have i10 : Inv (hf_up ψ5 183 6 ((ψ5 183 6) + 1)) := iv_up (lo := 0) (u := 40) hI5 (by decide +kernel) (by omega) (by omega)
          have r10 : Fr [44, 45, 46, 47, 48, 49, 50, 51, 44000, 44001, 44002, 44003, 44004, 44005, 184006] φ (hf_up ψ5 183 6 ((ψ5 183 6) + 1)) := fr_up hG5 (by decide)
          have f11 : (hf_up ψ5 183 6 ((ψ5 183 6) + 1)) 183 6 = (ψ5 183 6) + 1 := hf_up_eq
          exact ih (hf_up ψ5 183 6 ((ψ5 183 6) + 1)) (jm_st1 (jm_st1 L 2 (0, z5)) 3 (0, l3 + 1)) z5 (l3 + 1) (get_st1 (get_st1 g0 (by decide) (fun q => absurd q.1 (by decide))) (by decide) (fun q => absurd q.1 (by decide))) (get_st1 (get_st1 g1 (by decide) (fun q => tg2 q.2)) (by decide) (fun q => absurd q.1 (by decide))) (get_st1 get_st1e (by decide) (fun q => tg0 q.2)) get_st1e i10 (by omega) (by omega) (by omega) (by omega) (fun rr χ hIχ hFχ hpχ hEχ => hQ rr χ hIχ (fr_tr r10 hFχ (by decide)) hpχ (e6b.trans hEχ))
theorem sf_139_183_43_v {sc : List Int} {d : Nat} {φ : hf_F} {x : Nat} {Q : Option jm_V → hf_F → Nat → Prop} 
    (H : hw sc (d + 5) 139 9 (jm_st1 (jm_st1 [(0, (2, 183)), (1, (2, 43))] 2 (0, 0)) 3 (0, 0)) [] (hf_up φ 183 6 0) x Q) :
    hw sc (d + 5) 139 0 [(0, (2, 183)), (1, (2, 43))] [] φ x Q := by
  refine hw_ald (b := 0) (e := 0) (by decide +kernel) rfl (by decide) ?_
  refine hw_k (c := 0) (b := 0) (e := 1) (by decide +kernel) ?_
  refine hr_pi (b := 8) (e := 6) 183 rfl (by decide +kernel) ?_
  refine hw_k (c := 0) (b := 0) (e := 1) (by decide +kernel) ?_
  refine hw_st (L' := (jm_st1 [(0, (2, 183)), (1, (2, 43))] 2 (0, 0))) (b := 2) (e := 0) (by decide +kernel) rfl ?_
  refine hw_k (c := 0) (b := 0) (e := 1) (by decide +kernel) ?_
  refine hw_st (L' := (jm_st1 (jm_st1 [(0, (2, 183)), (1, (2, 43))] 2 (0, 0)) 3 (0, 0))) (b := 3) (e := 0) (by decide +kernel) rfl ?_
  exact H
theorem sf_139_183_43 {sc : List Int} {d : Nat} {φ : hf_F} {x : Nat} {Q : Option jm_V → hf_F → Nat → Prop}  (hI : Inv φ)  (hQ : ∀ (r : Int) (ψ : hf_F), Inv ψ → Fr [44, 45, 46, 47, 48, 49, 50, 51, 44000, 44001, 44002, 44003, 44004, 44005, 184006] φ ψ → True → F_BookText_liveOn_183_43 φ = (r, ψ) → Q (some (0, r)) ψ x) : hw sc (d + 5) 139 0 [(0, (2, 183)), (1, (2, 43))] [] φ x Q := by
  apply sf_139_183_43_v
  have e0 : F_BookText_liveOn_183_43 φ = _ := rfl
  have i1 : Inv (hf_up φ 183 6 0) := iv_up (lo := 0) (u := 40) hI (by decide +kernel) (by omega) (by omega)
  have r1 : Fr [44, 45, 46, 47, 48, 49, 50, 51, 44000, 44001, 44002, 44003, 44004, 44005, 184006] φ (hf_up φ 183 6 0) := fr_up (fr_rf) (by decide)
  have f2 : (hf_up φ 183 6 0) 183 6 = 0 := hf_up_eq
  exact sf_139_183_43_l9 ((40 - 0 : Int).toNat + 1) (hf_up φ 183 6 0) (jm_st1 (jm_st1 [(0, (2, 183)), (1, (2, 43))] 2 (0, 0)) 3 (0, 0)) 0 0 (get_st1 (get_st1 rfl (by decide) (fun q => absurd q.1 (by decide))) (by decide) (fun q => absurd q.1 (by decide))) (get_st1 (get_st1 rfl (by decide) (fun q => tg2 q.2)) (by decide) (fun q => absurd q.1 (by decide))) (get_st1 get_st1e (by decide) (fun q => tg0 q.2)) get_st1e i1 (by omega) (by omega) (by omega) (by omega) (fun rr χ hIχ hFχ hpχ hEχ => hQ rr χ hIχ (fr_tr r1 hFχ (by decide)) hpχ (e0.trans hEχ))
theorem sf_132_0_v {sc : List Int} {d : Nat} {φ : hf_F} {x : Nat} {Q : Option jm_V → hf_F → Nat → Prop} {v1 : Int}
    (H : hi v1 ∧ (v1 = 0 → hw sc (d + 5) 133 0 [(0, (2, 183))] [] φ x (fun r ψ2 y2 => y2 = x ∧ (∃ z2 : Int, r = some (0, z2) ∧ (hw sc (d + 5) 62 0 [(0, (2, 0))] [] ψ2 x (fun r ψ3 y3 => y3 = x ∧ (r = none ∧ (hi z2 ∧ (¬ z2 = 0 → hw sc (d + 5) 66 0 [(0, (2, 43)), (1, (2, 17))] [] ψ3 x (fun r ψ5 y5 => y5 = x ∧ (r = none ∧ (hw sc (d + 5) 139 0 [(0, (2, 183)), (1, (2, 43))] [] ψ5 x (fun r ψ6 y6 => y6 = x ∧ (∃ z6 : Int, r = some (0, z6) ∧ (hi v1 ∧ hi 1 ∧ (¬ v1 = 1 → (¬ (jm_n z6) = 0 → Q (some (0, ψ6 183 6)) (hf_up (hf_up (hf_up (hf_up ψ6 191 0 z6) 191 1 (ψ6 183 6)) 191 2 (ψ6 43 0)) 191 3 (ψ6 43 3)) x) ∧ (¬ (¬ (jm_n z6) = 0) → Q (some (0, (-1 : Int))) (hf_up (hf_up (hf_up (hf_up ψ6 191 0 z6) 191 1 (ψ6 183 6)) 191 2 (ψ6 43 0)) 191 3 (ψ6 43 3)) x)) ∧ (¬ (¬ v1 = 1) → hi (ψ6 183 6) ∧ ((ψ6 183 6) ≤ 0 → (¬ (jm_n z6) = 0 → Q (some (0, ψ6 183 6)) (hf_up (hf_up (hf_up (hf_up ψ6 191 0 z6) 191 1 (ψ6 183 6)) 191 2 (ψ6 43 0)) 191 3 (ψ6 43 3)) x) ∧ (¬ (¬ (jm_n z6) = 0) → Q (some (0, (-1 : Int))) (hf_up (hf_up (hf_up (hf_up ψ6 191 0 z6) 191 1 (ψ6 183 6)) 191 2 (ψ6 43 0)) 191 3 (ψ6 43 3)) x)) ∧ (¬ (ψ6 183 6) ≤ 0 → hw sc (d + 5) 80 0 [(0, (2, 108)), (1, (2, 17))] [] (hf_up (hf_up (hf_up (hf_up ψ6 191 0 z6) 191 1 (ψ6 183 6)) 191 2 (ψ6 43 0)) 191 3 (ψ6 43 3)) x (fun r ψ15 y15 => y15 = x ∧ (r = none ∧ (hw sc (d + 5) 66 0 [(0, (2, 17)), (1, (2, 43))] [] ψ15 x (fun r ψ16 y16 => y16 = x ∧ (r = none ∧ ((¬ (jm_n z6) = 0 → Q (some (0, ψ16 183 6)) ψ16 x) ∧ (¬ (¬ (jm_n z6) = 0) → Q (some (0, (-1 : Int))) ψ16 x)))))))))))))))) ∧ (¬ (¬ z2 = 0) → Q (some (0, (-2 : Int) - (ψ3 1 10))) ψ3 x)))))))) ∧ (¬ v1 = 0 → hi v1 ∧ hi 1 ∧ (v1 = 1 → hw sc (d + 5) 133 0 [(0, (2, 183))] [] φ x (fun r ψ22 y22 => y22 = x ∧ (∃ z22 : Int, r = some (0, z22) ∧ (hw sc (d + 5) 62 0 [(0, (2, 0))] [] ψ22 x (fun r ψ23 y23 => y23 = x ∧ (r = none ∧ (hi z22 ∧ (¬ z22 = 0 → hw sc (d + 5) 66 0 [(0, (2, 43)), (1, (2, 17))] [] ψ23 x (fun r ψ25 y25 => y25 = x ∧ (r = none ∧ (hw sc (d + 5) 139 0 [(0, (2, 183)), (1, (2, 43))] [] ψ25 x (fun r ψ26 y26 => y26 = x ∧ (∃ z26 : Int, r = some (0, z26) ∧ (hi v1 ∧ hi 1 ∧ (¬ v1 = 1 → (¬ (jm_n z26) = 0 → Q (some (0, ψ26 183 6)) (hf_up (hf_up (hf_up (hf_up ψ26 191 0 z26) 191 1 (ψ26 183 6)) 191 2 (ψ26 43 0)) 191 3 (ψ26 43 3)) x) ∧ (¬ (¬ (jm_n z26) = 0) → Q (some (0, (-1 : Int))) (hf_up (hf_up (hf_up (hf_up ψ26 191 0 z26) 191 1 (ψ26 183 6)) 191 2 (ψ26 43 0)) 191 3 (ψ26 43 3)) x)) ∧ (¬ (¬ v1 = 1) → hi (ψ26 183 6) ∧ ((ψ26 183 6) ≤ 0 → (¬ (jm_n z26) = 0 → Q (some (0, ψ26 183 6)) (hf_up (hf_up (hf_up (hf_up ψ26 191 0 z26) 191 1 (ψ26 183 6)) 191 2 (ψ26 43 0)) 191 3 (ψ26 43 3)) x) ∧ (¬ (¬ (jm_n z26) = 0) → Q (some (0, (-1 : Int))) (hf_up (hf_up (hf_up (hf_up ψ26 191 0 z26) 191 1 (ψ26 183 6)) 191 2 (ψ26 43 0)) 191 3 (ψ26 43 3)) x)) ∧ (¬ (ψ26 183 6) ≤ 0 → hw sc (d + 5) 80 0 [(0, (2, 108)), (1, (2, 17))] [] (hf_up (hf_up (hf_up (hf_up ψ26 191 0 z26) 191 1 (ψ26 183 6)) 191 2 (ψ26 43 0)) 191 3 (ψ26 43 3)) x (fun r ψ35 y35 => y35 = x ∧ (r = none ∧ (hw sc (d + 5) 66 0 [(0, (2, 17)), (1, (2, 43))] [] ψ35 x (fun r ψ36 y36 => y36 = x ∧ (r = none ∧ ((¬ (jm_n z26) = 0 → Q (some (0, ψ36 183 6)) ψ36 x) ∧ (¬ (¬ (jm_n z26) = 0) → Q (some (0, (-1 : Int))) ψ36 x)))))))))))))))) ∧ (¬ (¬ z22 = 0) → Q (some (0, (-2 : Int) - (ψ23 1 10))) ψ23 x)))))))) ∧ (¬ v1 = 1 → Q (some (0, (-1000 : Int))) φ x))) :
    hw sc (d + 6) 132 0 [(0, (2, 0)), (1, (0, v1))] [] φ x Q := by
  refine hw_ld (b := 1) (e := 0) (by decide +kernel) rfl ?_
  obtain ⟨hz1, ht1, hf1⟩ := H
  refine hw_if (a0 := 0) (b := 0) (e := 13) (by decide +kernel) hz1 (fun q => ?_) (fun q => ?_)
  · have H := ht1 q
    refine hw_ald (b := 0) (e := 0) (by decide +kernel) rfl (by decide) ?_
    refine hr_gr (w := 183) (b := 0) (e := 7) 0 rfl (by decide +kernel) ?_
    refine hr_call (a0 := 18) (b := 133) (e := 1) (nl := 2) (As := []) (R := []) 183 rfl (by decide +kernel) rfl rfl (Nat.le_of_ble_eq_true rfl) (Nat.le_of_ble_eq_true rfl) ?_
    refine hw_mono H ?_
    rintro r ψ2 y2 ⟨hyx, z2, hr, H⟩
    subst hyx
    subst hr
    refine ⟨hne0, ?_⟩
    show hw sc (d + 6) 132 20 [(0, (2, 0)), (1, (0, v1))] [(0, z2)] ψ2 y2 Q
    refine hw_st (L' := (jm_st1 [(0, (2, 0)), (1, (0, v1))] 2 (0, z2))) (b := 2) (e := 0) (by decide +kernel) rfl ?_
    refine hw_ald (b := 0) (e := 0) (by decide +kernel) (get_st1 rfl (by decide) (fun q => absurd q.1 (by decide))) (by decide) ?_
    refine hr_call (a0 := 10) (b := 62) (e := 1) (nl := 1) (As := []) (R := []) 0 rfl (by decide +kernel) rfl rfl (Nat.le_of_ble_eq_true rfl) (Nat.le_of_ble_eq_true rfl) ?_
    refine hw_mono H ?_
    rintro r ψ3 y3 ⟨hyx, hr, H⟩
    subst hyx
    subst hr
    refine ⟨hnen, ?_⟩
    show hw sc (d + 6) 132 25 (jm_st1 [(0, (2, 0)), (1, (0, v1))] 2 (0, z2)) [] ψ3 y3 Q
    refine hw_ld (b := 2) (e := 0) (by decide +kernel) get_st1e ?_
    obtain ⟨hz4, ht4, hf4⟩ := H
    refine hw_if (a0 := 0) (b := 1) (e := 40) (by decide +kernel) hz4 (fun q => ?_) (fun q => ?_)
    · have H := ht4 q
      refine hw_ald (b := 0) (e := 0) (by decide +kernel) (get_st1 rfl (by decide) (fun q => absurd q.1 (by decide))) (by decide) ?_
      refine hr_gr (w := 30) (b := 0) (e := 2) 0 rfl (by decide +kernel) ?_
      refine hr_gr (w := 43) (b := 2) (e := 1) 30 rfl (by decide +kernel) ?_
      refine hw_ald (b := 0) (e := 0) (by decide +kernel) (get_st1 rfl (by decide) (fun q => absurd q.1 (by decide))) (by decide) ?_
      refine hr_gr (w := 4) (b := 0) (e := 1) 0 rfl (by decide +kernel) ?_
      refine hr_gr (w := 17) (b := 2) (e := 1) 4 rfl (by decide +kernel) ?_
      refine hr_call (a0 := 14) (b := 66) (e := 2) (nl := 2) (As := [(2, 17)]) (R := []) 43 rfl (by decide +kernel) rfl rfl (Nat.le_of_ble_eq_true rfl) (Nat.le_of_ble_eq_true rfl) ?_
      refine hw_mono H ?_
      rintro r ψ5 y5 ⟨hyx, hr, H⟩
      subst hyx
      subst hr
      refine ⟨hnen, ?_⟩
      show hw sc (d + 6) 132 57 (jm_st1 [(0, (2, 0)), (1, (0, v1))] 2 (0, z2)) [] ψ5 y5 Q
      refine hw_ald (b := 0) (e := 0) (by decide +kernel) (get_st1 rfl (by decide) (fun q => absurd q.1 (by decide))) (by decide) ?_
      refine hr_gr (w := 183) (b := 0) (e := 7) 0 rfl (by decide +kernel) ?_
      refine hw_ald (b := 0) (e := 0) (by decide +kernel) (get_st1 rfl (by decide) (fun q => absurd q.1 (by decide))) (by decide) ?_
      refine hr_gr (w := 30) (b := 0) (e := 2) 0 rfl (by decide +kernel) ?_
      refine hr_gr (w := 43) (b := 2) (e := 1) 30 rfl (by decide +kernel) ?_
      refine hr_call (a0 := 18) (b := 139) (e := 2) (nl := 4) (As := [(2, 43)]) (R := []) 183 rfl (by decide +kernel) rfl rfl (Nat.le_of_ble_eq_true rfl) (Nat.le_of_ble_eq_true rfl) ?_
      refine hw_mono H ?_
      rintro r ψ6 y6 ⟨hyx, z6, hr, H⟩
      subst hyx
      subst hr
      refine ⟨hne0, ?_⟩
      show hw sc (d + 6) 132 71 (jm_st1 [(0, (2, 0)), (1, (0, v1))] 2 (0, z2)) [(0, z6)] ψ6 y6 Q
      refine hw_st (L' := (jm_st1 (jm_st1 [(0, (2, 0)), (1, (0, v1))] 2 (0, z2)) 3 (0, z6))) (b := 3) (e := 0) (by decide +kernel) rfl ?_
      refine hw_ald (b := 0) (e := 0) (by decide +kernel) (get_st1 (get_st1 rfl (by decide) (fun q => absurd q.1 (by decide))) (by decide) (fun q => absurd q.1 (by decide))) (by decide) ?_
      refine hr_gr (w := 191) (b := 0) (e := 11) 0 rfl (by decide +kernel) ?_
      refine hw_k (c := 0) (b := 0) (e := 1) (by decide +kernel) ?_
      refine hw_ld (b := 3) (e := 0) (by decide +kernel) get_st1e ?_
      refine hr_as (a0 := 0) (e := 4) (n := 4) 191 rfl (by decide +kernel) (by decide) (by decide) ?_
      refine hw_ald (b := 0) (e := 0) (by decide +kernel) (get_st1 (get_st1 rfl (by decide) (fun q => absurd q.1 (by decide))) (by decide) (fun q => absurd q.1 (by decide))) (by decide) ?_
      refine hr_gr (w := 191) (b := 0) (e := 11) 0 rfl (by decide +kernel) ?_
      refine hw_k (c := 1) (b := 0) (e := 1) (by decide +kernel) ?_
      refine hw_ald (b := 0) (e := 0) (by decide +kernel) (get_st1 (get_st1 rfl (by decide) (fun q => absurd q.1 (by decide))) (by decide) (fun q => absurd q.1 (by decide))) (by decide) ?_
      refine hr_gr (w := 183) (b := 0) (e := 7) 0 rfl (by decide +kernel) ?_
      refine hr_gi (w := ψ6 183 6) (b := 8) (e := 6) 183 rfl (by decide +kernel) (hf_up_ne (fun q => absurd q.1 (by decide))) ?_
      refine hr_as (a0 := 0) (e := 4) (n := 4) 191 rfl (by decide +kernel) (by decide) (by decide) ?_
      refine hw_ald (b := 0) (e := 0) (by decide +kernel) (get_st1 (get_st1 rfl (by decide) (fun q => absurd q.1 (by decide))) (by decide) (fun q => absurd q.1 (by decide))) (by decide) ?_
      refine hr_gr (w := 191) (b := 0) (e := 11) 0 rfl (by decide +kernel) ?_
      refine hw_k (c := 2) (b := 0) (e := 1) (by decide +kernel) ?_
      refine hw_ald (b := 0) (e := 0) (by decide +kernel) (get_st1 (get_st1 rfl (by decide) (fun q => absurd q.1 (by decide))) (by decide) (fun q => absurd q.1 (by decide))) (by decide) ?_
      refine hr_gr (w := 30) (b := 0) (e := 2) 0 rfl (by decide +kernel) ?_
      refine hr_gr (w := 43) (b := 2) (e := 1) 30 rfl (by decide +kernel) ?_
      refine hr_gi (w := ψ6 43 0) (b := 4) (e := 0) 43 rfl (by decide +kernel) ((hf_up_ne (fun q => absurd q.1 (by decide))).trans (hf_up_ne (fun q => absurd q.1 (by decide)))) ?_
      refine hr_as (a0 := 0) (e := 4) (n := 4) 191 rfl (by decide +kernel) (by decide) (by decide) ?_
      refine hw_ald (b := 0) (e := 0) (by decide +kernel) (get_st1 (get_st1 rfl (by decide) (fun q => absurd q.1 (by decide))) (by decide) (fun q => absurd q.1 (by decide))) (by decide) ?_
      refine hr_gr (w := 191) (b := 0) (e := 11) 0 rfl (by decide +kernel) ?_
      refine hw_k (c := 3) (b := 0) (e := 1) (by decide +kernel) ?_
      refine hw_ald (b := 0) (e := 0) (by decide +kernel) (get_st1 (get_st1 rfl (by decide) (fun q => absurd q.1 (by decide))) (by decide) (fun q => absurd q.1 (by decide))) (by decide) ?_
      refine hr_gr (w := 30) (b := 0) (e := 2) 0 rfl (by decide +kernel) ?_
      refine hr_gr (w := 43) (b := 2) (e := 1) 30 rfl (by decide +kernel) ?_
      refine hr_gi (w := ψ6 43 3) (b := 4) (e := 3) 43 rfl (by decide +kernel) ((hf_up_ne (fun q => absurd q.1 (by decide))).trans ((hf_up_ne (fun q => absurd q.1 (by decide))).trans (hf_up_ne (fun q => absurd q.1 (by decide))))) ?_
      refine hr_as (a0 := 0) (e := 4) (n := 4) 191 rfl (by decide +kernel) (by decide) (by decide) ?_
      refine hw_ld (b := 1) (e := 0) (by decide +kernel) (get_st1 (get_st1 rfl (by decide) (fun q => tg0 q.2)) (by decide) (fun q => absurd q.1 (by decide))) ?_
      refine hw_k (c := 1) (b := 0) (e := 1) (by decide +kernel) ?_
      obtain ⟨hz7, hy7, ht7, hf7⟩ := H
      refine hw_if2 (a0 := 0) (b := 1) (e := 170) (by decide +kernel) hz7 hy7 (fun q => ?_) (fun q => ?_)
      · have H := ht7 q
        refine hw_ld (b := 3) (e := 0) (by decide +kernel) get_st1e ?_
        obtain ⟨ht8, hf8⟩ := H
        refine hw_ifn (a0 := 0) (b := 1) (e := 178) (by decide +kernel) (fun q => ?_) (fun q => ?_)
        · have H := ht8 q
          refine hw_ald (b := 0) (e := 0) (by decide +kernel) (get_st1 (get_st1 rfl (by decide) (fun q => absurd q.1 (by decide))) (by decide) (fun q => absurd q.1 (by decide))) (by decide) ?_
          refine hr_gr (w := 183) (b := 0) (e := 7) 0 rfl (by decide +kernel) ?_
          refine hr_gi (w := ψ6 183 6) (b := 8) (e := 6) 183 rfl (by decide +kernel) ((hf_up_ne (fun q => absurd q.1 (by decide))).trans ((hf_up_ne (fun q => absurd q.1 (by decide))).trans ((hf_up_ne (fun q => absurd q.1 (by decide))).trans (hf_up_ne (fun q => absurd q.1 (by decide)))))) ?_
          exact hw_ret (a0 := 0) (e := 0) (by decide +kernel) (Or.inl rfl) H
        · have H := hf8 q
          refine hw_k (c := (-1 : Int)) (b := 0) (e := 1) (by decide +kernel) ?_
          refine hw_goto (a0 := 0) (b := 0) (e := 185) (by decide +kernel) ?_
          exact hw_ret (a0 := 0) (e := 0) (by decide +kernel) (Or.inl rfl) H
      · have H := hf7 q
        refine hw_ald (b := 0) (e := 0) (by decide +kernel) (get_st1 (get_st1 rfl (by decide) (fun q => absurd q.1 (by decide))) (by decide) (fun q => absurd q.1 (by decide))) (by decide) ?_
        refine hr_gr (w := 183) (b := 0) (e := 7) 0 rfl (by decide +kernel) ?_
        refine hr_gi (w := ψ6 183 6) (b := 8) (e := 6) 183 rfl (by decide +kernel) ((hf_up_ne (fun q => absurd q.1 (by decide))).trans ((hf_up_ne (fun q => absurd q.1 (by decide))).trans ((hf_up_ne (fun q => absurd q.1 (by decide))).trans (hf_up_ne (fun q => absurd q.1 (by decide)))))) ?_
        obtain ⟨hz11, ht11, hf11⟩ := H
        refine hw_if (a0 := 0) (b := 5) (e := 170) (by decide +kernel) hz11 (fun q => ?_) (fun q => ?_)
        · have H := ht11 q
          refine hw_ld (b := 3) (e := 0) (by decide +kernel) get_st1e ?_
          obtain ⟨ht12, hf12⟩ := H
          refine hw_ifn (a0 := 0) (b := 1) (e := 178) (by decide +kernel) (fun q => ?_) (fun q => ?_)
          · have H := ht12 q
            refine hw_ald (b := 0) (e := 0) (by decide +kernel) (get_st1 (get_st1 rfl (by decide) (fun q => absurd q.1 (by decide))) (by decide) (fun q => absurd q.1 (by decide))) (by decide) ?_
            refine hr_gr (w := 183) (b := 0) (e := 7) 0 rfl (by decide +kernel) ?_
            refine hr_gi (w := ψ6 183 6) (b := 8) (e := 6) 183 rfl (by decide +kernel) ((hf_up_ne (fun q => absurd q.1 (by decide))).trans ((hf_up_ne (fun q => absurd q.1 (by decide))).trans ((hf_up_ne (fun q => absurd q.1 (by decide))).trans (hf_up_ne (fun q => absurd q.1 (by decide)))))) ?_
            exact hw_ret (a0 := 0) (e := 0) (by decide +kernel) (Or.inl rfl) H
          · have H := hf12 q
            refine hw_k (c := (-1 : Int)) (b := 0) (e := 1) (by decide +kernel) ?_
            refine hw_goto (a0 := 0) (b := 0) (e := 185) (by decide +kernel) ?_
            exact hw_ret (a0 := 0) (e := 0) (by decide +kernel) (Or.inl rfl) H
        · have H := hf11 q
          refine hw_ald (b := 0) (e := 0) (by decide +kernel) (get_st1 (get_st1 rfl (by decide) (fun q => absurd q.1 (by decide))) (by decide) (fun q => absurd q.1 (by decide))) (by decide) ?_
          refine hr_gr (w := 108) (b := 0) (e := 5) 0 rfl (by decide +kernel) ?_
          refine hw_ald (b := 0) (e := 0) (by decide +kernel) (get_st1 (get_st1 rfl (by decide) (fun q => absurd q.1 (by decide))) (by decide) (fun q => absurd q.1 (by decide))) (by decide) ?_
          refine hr_gr (w := 4) (b := 0) (e := 1) 0 rfl (by decide +kernel) ?_
          refine hr_gr (w := 17) (b := 2) (e := 1) 4 rfl (by decide +kernel) ?_
          refine hr_call (a0 := 16) (b := 80) (e := 2) (nl := 2) (As := [(2, 17)]) (R := []) 108 rfl (by decide +kernel) rfl rfl (Nat.le_of_ble_eq_true rfl) (Nat.le_of_ble_eq_true rfl) ?_
          refine hw_mono H ?_
          rintro r ψ15 y15 ⟨hyx, hr, H⟩
          subst hyx
          subst hr
          refine ⟨hnen, ?_⟩
          show hw sc (d + 6) 132 153 (jm_st1 (jm_st1 [(0, (2, 0)), (1, (0, v1))] 2 (0, z2)) 3 (0, z6)) [] ψ15 y15 Q
          refine hw_ald (b := 0) (e := 0) (by decide +kernel) (get_st1 (get_st1 rfl (by decide) (fun q => absurd q.1 (by decide))) (by decide) (fun q => absurd q.1 (by decide))) (by decide) ?_
          refine hr_gr (w := 4) (b := 0) (e := 1) 0 rfl (by decide +kernel) ?_
          refine hr_gr (w := 17) (b := 2) (e := 1) 4 rfl (by decide +kernel) ?_
          refine hw_ald (b := 0) (e := 0) (by decide +kernel) (get_st1 (get_st1 rfl (by decide) (fun q => absurd q.1 (by decide))) (by decide) (fun q => absurd q.1 (by decide))) (by decide) ?_
          refine hr_gr (w := 30) (b := 0) (e := 2) 0 rfl (by decide +kernel) ?_
          refine hr_gr (w := 43) (b := 2) (e := 1) 30 rfl (by decide +kernel) ?_
          refine hr_call (a0 := 14) (b := 66) (e := 2) (nl := 2) (As := [(2, 43)]) (R := []) 17 rfl (by decide +kernel) rfl rfl (Nat.le_of_ble_eq_true rfl) (Nat.le_of_ble_eq_true rfl) ?_
          refine hw_mono H ?_
          rintro r ψ16 y16 ⟨hyx, hr, H⟩
          subst hyx
          subst hr
          refine ⟨hnen, ?_⟩
          show hw sc (d + 6) 132 170 (jm_st1 (jm_st1 [(0, (2, 0)), (1, (0, v1))] 2 (0, z2)) 3 (0, z6)) [] ψ16 y16 Q
          refine hw_ld (b := 3) (e := 0) (by decide +kernel) get_st1e ?_
          obtain ⟨ht17, hf17⟩ := H
          refine hw_ifn (a0 := 0) (b := 1) (e := 178) (by decide +kernel) (fun q => ?_) (fun q => ?_)
          · have H := ht17 q
            refine hw_ald (b := 0) (e := 0) (by decide +kernel) (get_st1 (get_st1 rfl (by decide) (fun q => absurd q.1 (by decide))) (by decide) (fun q => absurd q.1 (by decide))) (by decide) ?_
            refine hr_gr (w := 183) (b := 0) (e := 7) 0 rfl (by decide +kernel) ?_
            refine hr_gi (w := ψ16 183 6) (b := 8) (e := 6) 183 rfl (by decide +kernel) rfl ?_
            exact hw_ret (a0 := 0) (e := 0) (by decide +kernel) (Or.inl rfl) H
          · have H := hf17 q
            refine hw_k (c := (-1 : Int)) (b := 0) (e := 1) (by decide +kernel) ?_
            refine hw_goto (a0 := 0) (b := 0) (e := 185) (by decide +kernel) ?_
            exact hw_ret (a0 := 0) (e := 0) (by decide +kernel) (Or.inl rfl) H
    · have H := hf4 q
      refine hw_k (c := (-2 : Int)) (b := 1) (e := 2) (by decide +kernel) ?_
      refine hw_ald (b := 0) (e := 0) (by decide +kernel) (get_st1 rfl (by decide) (fun q => absurd q.1 (by decide))) (by decide) ?_
      refine hr_gr (w := 1) (b := 0) (e := 0) 0 rfl (by decide +kernel) ?_
      refine hr_gi (w := ψ3 1 10) (b := 1) (e := 10) 1 rfl (by decide +kernel) rfl ?_
      refine hw_bin (w := (-2 : Int) - (ψ3 1 10)) (a0 := 0) (b := 1) (e := 0) (by decide +kernel) rfl ?_
      exact hw_ret (a0 := 0) (e := 0) (by decide +kernel) (Or.inl rfl) H
  · have H := hf1 q
    refine hw_ld (b := 1) (e := 0) (by decide +kernel) rfl ?_
    refine hw_k (c := 1) (b := 0) (e := 1) (by decide +kernel) ?_
    obtain ⟨hz21, hy21, ht21, hf21⟩ := H
    refine hw_if2 (a0 := 0) (b := 0) (e := 13) (by decide +kernel) hz21 hy21 (fun q => ?_) (fun q => ?_)
    · have H := ht21 q
      refine hw_ald (b := 0) (e := 0) (by decide +kernel) rfl (by decide) ?_
      refine hr_gr (w := 183) (b := 0) (e := 7) 0 rfl (by decide +kernel) ?_
      refine hr_call (a0 := 18) (b := 133) (e := 1) (nl := 2) (As := []) (R := []) 183 rfl (by decide +kernel) rfl rfl (Nat.le_of_ble_eq_true rfl) (Nat.le_of_ble_eq_true rfl) ?_
      refine hw_mono H ?_
      rintro r ψ22 y22 ⟨hyx, z22, hr, H⟩
      subst hyx
      subst hr
      refine ⟨hne0, ?_⟩
      show hw sc (d + 6) 132 20 [(0, (2, 0)), (1, (0, v1))] [(0, z22)] ψ22 y22 Q
      refine hw_st (L' := (jm_st1 [(0, (2, 0)), (1, (0, v1))] 2 (0, z22))) (b := 2) (e := 0) (by decide +kernel) rfl ?_
      refine hw_ald (b := 0) (e := 0) (by decide +kernel) (get_st1 rfl (by decide) (fun q => absurd q.1 (by decide))) (by decide) ?_
      refine hr_call (a0 := 10) (b := 62) (e := 1) (nl := 1) (As := []) (R := []) 0 rfl (by decide +kernel) rfl rfl (Nat.le_of_ble_eq_true rfl) (Nat.le_of_ble_eq_true rfl) ?_
      refine hw_mono H ?_
      rintro r ψ23 y23 ⟨hyx, hr, H⟩
      subst hyx
      subst hr
      refine ⟨hnen, ?_⟩
      show hw sc (d + 6) 132 25 (jm_st1 [(0, (2, 0)), (1, (0, v1))] 2 (0, z22)) [] ψ23 y23 Q
      refine hw_ld (b := 2) (e := 0) (by decide +kernel) get_st1e ?_
      obtain ⟨hz24, ht24, hf24⟩ := H
      refine hw_if (a0 := 0) (b := 1) (e := 40) (by decide +kernel) hz24 (fun q => ?_) (fun q => ?_)
      · have H := ht24 q
        refine hw_ald (b := 0) (e := 0) (by decide +kernel) (get_st1 rfl (by decide) (fun q => absurd q.1 (by decide))) (by decide) ?_
        refine hr_gr (w := 30) (b := 0) (e := 2) 0 rfl (by decide +kernel) ?_
        refine hr_gr (w := 43) (b := 2) (e := 1) 30 rfl (by decide +kernel) ?_
        refine hw_ald (b := 0) (e := 0) (by decide +kernel) (get_st1 rfl (by decide) (fun q => absurd q.1 (by decide))) (by decide) ?_
        refine hr_gr (w := 4) (b := 0) (e := 1) 0 rfl (by decide +kernel) ?_
        refine hr_gr (w := 17) (b := 2) (e := 1) 4 rfl (by decide +kernel) ?_
        refine hr_call (a0 := 14) (b := 66) (e := 2) (nl := 2) (As := [(2, 17)]) (R := []) 43 rfl (by decide +kernel) rfl rfl (Nat.le_of_ble_eq_true rfl) (Nat.le_of_ble_eq_true rfl) ?_
        refine hw_mono H ?_
        rintro r ψ25 y25 ⟨hyx, hr, H⟩
        subst hyx
        subst hr
        refine ⟨hnen, ?_⟩
        show hw sc (d + 6) 132 57 (jm_st1 [(0, (2, 0)), (1, (0, v1))] 2 (0, z22)) [] ψ25 y25 Q
        refine hw_ald (b := 0) (e := 0) (by decide +kernel) (get_st1 rfl (by decide) (fun q => absurd q.1 (by decide))) (by decide) ?_
        refine hr_gr (w := 183) (b := 0) (e := 7) 0 rfl (by decide +kernel) ?_
        refine hw_ald (b := 0) (e := 0) (by decide +kernel) (get_st1 rfl (by decide) (fun q => absurd q.1 (by decide))) (by decide) ?_
        refine hr_gr (w := 30) (b := 0) (e := 2) 0 rfl (by decide +kernel) ?_
        refine hr_gr (w := 43) (b := 2) (e := 1) 30 rfl (by decide +kernel) ?_
        refine hr_call (a0 := 18) (b := 139) (e := 2) (nl := 4) (As := [(2, 43)]) (R := []) 183 rfl (by decide +kernel) rfl rfl (Nat.le_of_ble_eq_true rfl) (Nat.le_of_ble_eq_true rfl) ?_
        refine hw_mono H ?_
        rintro r ψ26 y26 ⟨hyx, z26, hr, H⟩
        subst hyx
        subst hr
        refine ⟨hne0, ?_⟩
        show hw sc (d + 6) 132 71 (jm_st1 [(0, (2, 0)), (1, (0, v1))] 2 (0, z22)) [(0, z26)] ψ26 y26 Q
        refine hw_st (L' := (jm_st1 (jm_st1 [(0, (2, 0)), (1, (0, v1))] 2 (0, z22)) 3 (0, z26))) (b := 3) (e := 0) (by decide +kernel) rfl ?_
        refine hw_ald (b := 0) (e := 0) (by decide +kernel) (get_st1 (get_st1 rfl (by decide) (fun q => absurd q.1 (by decide))) (by decide) (fun q => absurd q.1 (by decide))) (by decide) ?_
        refine hr_gr (w := 191) (b := 0) (e := 11) 0 rfl (by decide +kernel) ?_
        refine hw_k (c := 0) (b := 0) (e := 1) (by decide +kernel) ?_
        refine hw_ld (b := 3) (e := 0) (by decide +kernel) get_st1e ?_
        refine hr_as (a0 := 0) (e := 4) (n := 4) 191 rfl (by decide +kernel) (by decide) (by decide) ?_
        refine hw_ald (b := 0) (e := 0) (by decide +kernel) (get_st1 (get_st1 rfl (by decide) (fun q => absurd q.1 (by decide))) (by decide) (fun q => absurd q.1 (by decide))) (by decide) ?_
        refine hr_gr (w := 191) (b := 0) (e := 11) 0 rfl (by decide +kernel) ?_
        refine hw_k (c := 1) (b := 0) (e := 1) (by decide +kernel) ?_
        refine hw_ald (b := 0) (e := 0) (by decide +kernel) (get_st1 (get_st1 rfl (by decide) (fun q => absurd q.1 (by decide))) (by decide) (fun q => absurd q.1 (by decide))) (by decide) ?_
        refine hr_gr (w := 183) (b := 0) (e := 7) 0 rfl (by decide +kernel) ?_
        refine hr_gi (w := ψ26 183 6) (b := 8) (e := 6) 183 rfl (by decide +kernel) (hf_up_ne (fun q => absurd q.1 (by decide))) ?_
        refine hr_as (a0 := 0) (e := 4) (n := 4) 191 rfl (by decide +kernel) (by decide) (by decide) ?_
        refine hw_ald (b := 0) (e := 0) (by decide +kernel) (get_st1 (get_st1 rfl (by decide) (fun q => absurd q.1 (by decide))) (by decide) (fun q => absurd q.1 (by decide))) (by decide) ?_
        refine hr_gr (w := 191) (b := 0) (e := 11) 0 rfl (by decide +kernel) ?_
        refine hw_k (c := 2) (b := 0) (e := 1) (by decide +kernel) ?_
        refine hw_ald (b := 0) (e := 0) (by decide +kernel) (get_st1 (get_st1 rfl (by decide) (fun q => absurd q.1 (by decide))) (by decide) (fun q => absurd q.1 (by decide))) (by decide) ?_
        refine hr_gr (w := 30) (b := 0) (e := 2) 0 rfl (by decide +kernel) ?_
        refine hr_gr (w := 43) (b := 2) (e := 1) 30 rfl (by decide +kernel) ?_
        refine hr_gi (w := ψ26 43 0) (b := 4) (e := 0) 43 rfl (by decide +kernel) ((hf_up_ne (fun q => absurd q.1 (by decide))).trans (hf_up_ne (fun q => absurd q.1 (by decide)))) ?_
        refine hr_as (a0 := 0) (e := 4) (n := 4) 191 rfl (by decide +kernel) (by decide) (by decide) ?_
        refine hw_ald (b := 0) (e := 0) (by decide +kernel) (get_st1 (get_st1 rfl (by decide) (fun q => absurd q.1 (by decide))) (by decide) (fun q => absurd q.1 (by decide))) (by decide) ?_
        refine hr_gr (w := 191) (b := 0) (e := 11) 0 rfl (by decide +kernel) ?_
        refine hw_k (c := 3) (b := 0) (e := 1) (by decide +kernel) ?_
        refine hw_ald (b := 0) (e := 0) (by decide +kernel) (get_st1 (get_st1 rfl (by decide) (fun q => absurd q.1 (by decide))) (by decide) (fun q => absurd q.1 (by decide))) (by decide) ?_
        refine hr_gr (w := 30) (b := 0) (e := 2) 0 rfl (by decide +kernel) ?_
        refine hr_gr (w := 43) (b := 2) (e := 1) 30 rfl (by decide +kernel) ?_
        refine hr_gi (w := ψ26 43 3) (b := 4) (e := 3) 43 rfl (by decide +kernel) ((hf_up_ne (fun q => absurd q.1 (by decide))).trans ((hf_up_ne (fun q => absurd q.1 (by decide))).trans (hf_up_ne (fun q => absurd q.1 (by decide))))) ?_
        refine hr_as (a0 := 0) (e := 4) (n := 4) 191 rfl (by decide +kernel) (by decide) (by decide) ?_
        refine hw_ld (b := 1) (e := 0) (by decide +kernel) (get_st1 (get_st1 rfl (by decide) (fun q => tg0 q.2)) (by decide) (fun q => absurd q.1 (by decide))) ?_
        refine hw_k (c := 1) (b := 0) (e := 1) (by decide +kernel) ?_
        obtain ⟨hz27, hy27, ht27, hf27⟩ := H
        refine hw_if2 (a0 := 0) (b := 1) (e := 170) (by decide +kernel) hz27 hy27 (fun q => ?_) (fun q => ?_)
        · have H := ht27 q
          refine hw_ld (b := 3) (e := 0) (by decide +kernel) get_st1e ?_
          obtain ⟨ht28, hf28⟩ := H
          refine hw_ifn (a0 := 0) (b := 1) (e := 178) (by decide +kernel) (fun q => ?_) (fun q => ?_)
          · have H := ht28 q
            refine hw_ald (b := 0) (e := 0) (by decide +kernel) (get_st1 (get_st1 rfl (by decide) (fun q => absurd q.1 (by decide))) (by decide) (fun q => absurd q.1 (by decide))) (by decide) ?_
            refine hr_gr (w := 183) (b := 0) (e := 7) 0 rfl (by decide +kernel) ?_
            refine hr_gi (w := ψ26 183 6) (b := 8) (e := 6) 183 rfl (by decide +kernel) ((hf_up_ne (fun q => absurd q.1 (by decide))).trans ((hf_up_ne (fun q => absurd q.1 (by decide))).trans ((hf_up_ne (fun q => absurd q.1 (by decide))).trans (hf_up_ne (fun q => absurd q.1 (by decide)))))) ?_
            exact hw_ret (a0 := 0) (e := 0) (by decide +kernel) (Or.inl rfl) H
          · have H := hf28 q
            refine hw_k (c := (-1 : Int)) (b := 0) (e := 1) (by decide +kernel) ?_
            refine hw_goto (a0 := 0) (b := 0) (e := 185) (by decide +kernel) ?_
            exact hw_ret (a0 := 0) (e := 0) (by decide +kernel) (Or.inl rfl) H
        · have H := hf27 q
          refine hw_ald (b := 0) (e := 0) (by decide +kernel) (get_st1 (get_st1 rfl (by decide) (fun q => absurd q.1 (by decide))) (by decide) (fun q => absurd q.1 (by decide))) (by decide) ?_
          refine hr_gr (w := 183) (b := 0) (e := 7) 0 rfl (by decide +kernel) ?_
          refine hr_gi (w := ψ26 183 6) (b := 8) (e := 6) 183 rfl (by decide +kernel) ((hf_up_ne (fun q => absurd q.1 (by decide))).trans ((hf_up_ne (fun q => absurd q.1 (by decide))).trans ((hf_up_ne (fun q => absurd q.1 (by decide))).trans (hf_up_ne (fun q => absurd q.1 (by decide)))))) ?_
          obtain ⟨hz31, ht31, hf31⟩ := H
          refine hw_if (a0 := 0) (b := 5) (e := 170) (by decide +kernel) hz31 (fun q => ?_) (fun q => ?_)
          · have H := ht31 q
            refine hw_ld (b := 3) (e := 0) (by decide +kernel) get_st1e ?_
            obtain ⟨ht32, hf32⟩ := H
            refine hw_ifn (a0 := 0) (b := 1) (e := 178) (by decide +kernel) (fun q => ?_) (fun q => ?_)
            · have H := ht32 q
              refine hw_ald (b := 0) (e := 0) (by decide +kernel) (get_st1 (get_st1 rfl (by decide) (fun q => absurd q.1 (by decide))) (by decide) (fun q => absurd q.1 (by decide))) (by decide) ?_
              refine hr_gr (w := 183) (b := 0) (e := 7) 0 rfl (by decide +kernel) ?_
              refine hr_gi (w := ψ26 183 6) (b := 8) (e := 6) 183 rfl (by decide +kernel) ((hf_up_ne (fun q => absurd q.1 (by decide))).trans ((hf_up_ne (fun q => absurd q.1 (by decide))).trans ((hf_up_ne (fun q => absurd q.1 (by decide))).trans (hf_up_ne (fun q => absurd q.1 (by decide)))))) ?_
              exact hw_ret (a0 := 0) (e := 0) (by decide +kernel) (Or.inl rfl) H
            · have H := hf32 q
              refine hw_k (c := (-1 : Int)) (b := 0) (e := 1) (by decide +kernel) ?_
              refine hw_goto (a0 := 0) (b := 0) (e := 185) (by decide +kernel) ?_
              exact hw_ret (a0 := 0) (e := 0) (by decide +kernel) (Or.inl rfl) H
          · have H := hf31 q
            refine hw_ald (b := 0) (e := 0) (by decide +kernel) (get_st1 (get_st1 rfl (by decide) (fun q => absurd q.1 (by decide))) (by decide) (fun q => absurd q.1 (by decide))) (by decide) ?_
            refine hr_gr (w := 108) (b := 0) (e := 5) 0 rfl (by decide +kernel) ?_
            refine hw_ald (b := 0) (e := 0) (by decide +kernel) (get_st1 (get_st1 rfl (by decide) (fun q => absurd q.1 (by decide))) (by decide) (fun q => absurd q.1 (by decide))) (by decide) ?_
            refine hr_gr (w := 4) (b := 0) (e := 1) 0 rfl (by decide +kernel) ?_
            refine hr_gr (w := 17) (b := 2) (e := 1) 4 rfl (by decide +kernel) ?_
            refine hr_call (a0 := 16) (b := 80) (e := 2) (nl := 2) (As := [(2, 17)]) (R := []) 108 rfl (by decide +kernel) rfl rfl (Nat.le_of_ble_eq_true rfl) (Nat.le_of_ble_eq_true rfl) ?_
            refine hw_mono H ?_
            rintro r ψ35 y35 ⟨hyx, hr, H⟩
            subst hyx
            subst hr
            refine ⟨hnen, ?_⟩
            show hw sc (d + 6) 132 153 (jm_st1 (jm_st1 [(0, (2, 0)), (1, (0, v1))] 2 (0, z22)) 3 (0, z26)) [] ψ35 y35 Q
            refine hw_ald (b := 0) (e := 0) (by decide +kernel) (get_st1 (get_st1 rfl (by decide) (fun q => absurd q.1 (by decide))) (by decide) (fun q => absurd q.1 (by decide))) (by decide) ?_
            refine hr_gr (w := 4) (b := 0) (e := 1) 0 rfl (by decide +kernel) ?_
            refine hr_gr (w := 17) (b := 2) (e := 1) 4 rfl (by decide +kernel) ?_
            refine hw_ald (b := 0) (e := 0) (by decide +kernel) (get_st1 (get_st1 rfl (by decide) (fun q => absurd q.1 (by decide))) (by decide) (fun q => absurd q.1 (by decide))) (by decide) ?_
            refine hr_gr (w := 30) (b := 0) (e := 2) 0 rfl (by decide +kernel) ?_
            refine hr_gr (w := 43) (b := 2) (e := 1) 30 rfl (by decide +kernel) ?_
            refine hr_call (a0 := 14) (b := 66) (e := 2) (nl := 2) (As := [(2, 43)]) (R := []) 17 rfl (by decide +kernel) rfl rfl (Nat.le_of_ble_eq_true rfl) (Nat.le_of_ble_eq_true rfl) ?_
            refine hw_mono H ?_
            rintro r ψ36 y36 ⟨hyx, hr, H⟩
            subst hyx
            subst hr
            refine ⟨hnen, ?_⟩
            show hw sc (d + 6) 132 170 (jm_st1 (jm_st1 [(0, (2, 0)), (1, (0, v1))] 2 (0, z22)) 3 (0, z26)) [] ψ36 y36 Q
            refine hw_ld (b := 3) (e := 0) (by decide +kernel) get_st1e ?_
            obtain ⟨ht37, hf37⟩ := H
            refine hw_ifn (a0 := 0) (b := 1) (e := 178) (by decide +kernel) (fun q => ?_) (fun q => ?_)
            · have H := ht37 q
              refine hw_ald (b := 0) (e := 0) (by decide +kernel) (get_st1 (get_st1 rfl (by decide) (fun q => absurd q.1 (by decide))) (by decide) (fun q => absurd q.1 (by decide))) (by decide) ?_
              refine hr_gr (w := 183) (b := 0) (e := 7) 0 rfl (by decide +kernel) ?_
              refine hr_gi (w := ψ36 183 6) (b := 8) (e := 6) 183 rfl (by decide +kernel) rfl ?_
              exact hw_ret (a0 := 0) (e := 0) (by decide +kernel) (Or.inl rfl) H
            · have H := hf37 q
              refine hw_k (c := (-1 : Int)) (b := 0) (e := 1) (by decide +kernel) ?_
              refine hw_goto (a0 := 0) (b := 0) (e := 185) (by decide +kernel) ?_
              exact hw_ret (a0 := 0) (e := 0) (by decide +kernel) (Or.inl rfl) H
      · have H := hf24 q
        refine hw_k (c := (-2 : Int)) (b := 1) (e := 2) (by decide +kernel) ?_
        refine hw_ald (b := 0) (e := 0) (by decide +kernel) (get_st1 rfl (by decide) (fun q => absurd q.1 (by decide))) (by decide) ?_
        refine hr_gr (w := 1) (b := 0) (e := 0) 0 rfl (by decide +kernel) ?_
        refine hr_gi (w := ψ23 1 10) (b := 1) (e := 10) 1 rfl (by decide +kernel) rfl ?_
        refine hw_bin (w := (-2 : Int) - (ψ23 1 10)) (a0 := 0) (b := 1) (e := 0) (by decide +kernel) rfl ?_
        exact hw_ret (a0 := 0) (e := 0) (by decide +kernel) (Or.inl rfl) H
    · have H := hf21 q
      refine hw_k (c := (-1000 : Int)) (b := 2) (e := 3) (by decide +kernel) ?_
      exact hw_ret (a0 := 0) (e := 0) (by decide +kernel) (Or.inl rfl) H
theorem sf_132_0 {sc : List Int} {d : Nat} {φ : hf_F} {x : Nat} {Q : Option jm_V → hf_F → Nat → Prop} {v1 : Int} (hI : Inv φ) (h1a : (-2147483648 : Int) ≤ v1) (h1b : v1 ≤ 2147483647) (hQ : ∀ (r : Int) (ψ : hf_F), Inv ψ → Fr [18, 19, 20, 21, 22, 23, 24, 25, 44, 45, 46, 47, 48, 49, 50, 51, 109, 111, 112, 113, 114, 115, 116, 117, 118, 120, 121, 122, 123, 124, 125, 126, 127, 129, 130, 131, 132, 133, 134, 135, 136, 138, 139, 140, 141, 142, 143, 144, 145, 147, 148, 149, 150, 151, 152, 153, 154, 156, 157, 158, 159, 160, 161, 162, 163, 165, 166, 167, 168, 169, 170, 171, 172, 174, 175, 176, 177, 178, 179, 180, 181, 184, 185, 186, 191, 1012, 2002, 2003, 2004, 2005, 2006, 2007, 2008, 2009, 2010, 18000, 18001, 18002, 18003, 18004, 18005, 44000, 44001, 44002, 44003, 44004, 44005, 109001, 111000, 111001, 111002, 111003, 111004, 111005, 120000, 120001, 120002, 120003, 120004, 120005, 129000, 129001, 129002, 129003, 129004, 129005, 138000, 138001, 138002, 138003, 138004, 138005, 147000, 147001, 147002, 147003, 147004, 147005, 156000, 156001, 156002, 156003, 156004, 156005, 165000, 165001, 165002, 165003, 165004, 165005, 174000, 174001, 174002, 174003, 174004, 174005, 184005, 184006] φ ψ → True ∧ (((v1 = 0 ∨ v1 = 1) → ψ 1 2 = 0) ∧ (¬ (v1 = 0 ∨ v1 = 1) → ψ 1 2 = φ 1 2)) → F_RideLaws_book_0 φ v1 = (r, ψ) → Q (some (0, r)) ψ x) : hw sc (d + 6) 132 0 [(0, (2, 0)), (1, (0, v1))] [] φ x Q := by
  apply sf_132_0_v
  have e0 : F_RideLaws_book_0 φ v1 = _ := rfl
  refine ⟨by unfold hi; omega, fun q1 => ?_, fun q1 => ?_⟩
  · skip
    have e1a := e0.trans (if_pos q1)
    refine sf_133_183 (φ := φ) hI  (fun z2 ψ2 hI2 hF2 hp2 hE2 => ⟨rfl, z2, rfl, ?_⟩)
    have hG2 : Fr [18, 19, 20, 21, 22, 23, 24, 25, 44, 45, 46, 47, 48, 49, 50, 51, 109, 111, 112, 113, 114, 115, 116, 117, 118, 120, 121, 122, 123, 124, 125, 126, 127, 129, 130, 131, 132, 133, 134, 135, 136, 138, 139, 140, 141, 142, 143, 144, 145, 147, 148, 149, 150, 151, 152, 153, 154, 156, 157, 158, 159, 160, 161, 162, 163, 165, 166, 167, 168, 169, 170, 171, 172, 174, 175, 176, 177, 178, 179, 180, 181, 184, 185, 186, 191, 1012, 2002, 2003, 2004, 2005, 2006, 2007, 2008, 2009, 2010, 18000, 18001, 18002, 18003, 18004, 18005, 44000, 44001, 44002, 44003, 44004, 44005, 109001, 111000, 111001, 111002, 111003, 111004, 111005, 120000, 120001, 120002, 120003, 120004, 120005, 129000, 129001, 129002, 129003, 129004, 129005, 138000, 138001, 138002, 138003, 138004, 138005, 147000, 147001, 147002, 147003, 147004, 147005, 156000, 156001, 156002, 156003, 156004, 156005, 165000, 165001, 165002, 165003, 165004, 165005, 174000, 174001, 174002, 174003, 174004, 174005, 184005, 184006] φ ψ2 := fr_tr (fr_rf) hF2 (by decide)
    have e2 := e1a.trans (bnd_e hE2)
    refine sf_62_0 (φ := ψ2) hI2  (fun ψ3 hI3 hF3 hV3 hE3 => ⟨rfl, rfl, ?_⟩)
    have hG3 : Fr [18, 19, 20, 21, 22, 23, 24, 25, 44, 45, 46, 47, 48, 49, 50, 51, 109, 111, 112, 113, 114, 115, 116, 117, 118, 120, 121, 122, 123, 124, 125, 126, 127, 129, 130, 131, 132, 133, 134, 135, 136, 138, 139, 140, 141, 142, 143, 144, 145, 147, 148, 149, 150, 151, 152, 153, 154, 156, 157, 158, 159, 160, 161, 162, 163, 165, 166, 167, 168, 169, 170, 171, 172, 174, 175, 176, 177, 178, 179, 180, 181, 184, 185, 186, 191, 1012, 2002, 2003, 2004, 2005, 2006, 2007, 2008, 2009, 2010, 18000, 18001, 18002, 18003, 18004, 18005, 44000, 44001, 44002, 44003, 44004, 44005, 109001, 111000, 111001, 111002, 111003, 111004, 111005, 120000, 120001, 120002, 120003, 120004, 120005, 129000, 129001, 129002, 129003, 129004, 129005, 138000, 138001, 138002, 138003, 138004, 138005, 147000, 147001, 147002, 147003, 147004, 147005, 156000, 156001, 156002, 156003, 156004, 156005, 165000, 165001, 165002, 165003, 165004, 165005, 174000, 174001, 174002, 174003, 174004, 174005, 184005, 184006] φ ψ3 := fr_tr hG2 hF3 (by decide)
    have f1 := iv_at (a := 1) (k := 2) (lo := 0) (u := 940) hI3 (by decide +kernel)
    have e3 := e2.trans (bnv_e hE3)
    refine ⟨by unfold hi; omega, fun q4 => ?_, fun q4 => ?_⟩
    · skip
      have e4a := e3.trans (if_pos q4)
      refine sf_66_43_17 (φ := ψ3) hI3  (fun ψ5 hI5 hF5 hE5 => ⟨rfl, rfl, ?_⟩)
      have hG5 : Fr [18, 19, 20, 21, 22, 23, 24, 25, 44, 45, 46, 47, 48, 49, 50, 51, 109, 111, 112, 113, 114, 115, 116, 117, 118, 120, 121, 122, 123, 124, 125, 126, 127, 129, 130, 131, 132, 133, 134, 135, 136, 138, 139, 140, 141, 142, 143, 144, 145, 147, 148, 149, 150, 151, 152, 153, 154, 156, 157, 158, 159, 160, 161, 162, 163, 165, 166, 167, 168, 169, 170, 171, 172, 174, 175, 176, 177, 178, 179, 180, 181, 184, 185, 186, 191, 1012, 2002, 2003, 2004, 2005, 2006, 2007, 2008, 2009, 2010, 18000, 18001, 18002, 18003, 18004, 18005, 44000, 44001, 44002, 44003, 44004, 44005, 109001, 111000, 111001, 111002, 111003, 111004, 111005, 120000, 120001, 120002, 120003, 120004, 120005, 129000, 129001, 129002, 129003, 129004, 129005, 138000, 138001, 138002, 138003, 138004, 138005, 147000, 147001, 147002, 147003, 147004, 147005, 156000, 156001, 156002, 156003, 156004, 156005, 165000, 165001, 165002, 165003, 165004, 165005, 174000, 174001, 174002, 174003, 174004, 174005, 184005, 184006] φ ψ5 := fr_tr hG3 hF5 (by decide)
      have e5 := e4a.trans (bnv_e hE5)
      refine sf_139_183_43 (φ := ψ5) hI5  (fun z6 ψ6 hI6 hF6 hp6 hE6 => ⟨rfl, z6, rfl, ?_⟩)
      have hG6 : Fr [18, 19, 20, 21, 22, 23, 24, 25, 44, 45, 46, 47, 48, 49, 50, 51, 109, 111, 112, 113, 114, 115, 116, 117, 118, 120, 121, 122, 123, 124, 125, 126, 127, 129, 130, 131, 132, 133, 134, 135, 136, 138, 139, 140, 141, 142, 143, 144, 145, 147, 148, 149, 150, 151, 152, 153, 154, 156, 157, 158, 159, 160, 161, 162, 163, 165, 166, 167, 168, 169, 170, 171, 172, 174, 175, 176, 177, 178, 179, 180, 181, 184, 185, 186, 191, 1012, 2002, 2003, 2004, 2005, 2006, 2007, 2008, 2009, 2010, 18000, 18001, 18002, 18003, 18004, 18005, 44000, 44001, 44002, 44003, 44004, 44005, 109001, 111000, 111001, 111002, 111003, 111004, 111005, 120000, 120001, 120002, 120003, 120004, 120005, 129000, 129001, 129002, 129003, 129004, 129005, 138000, 138001, 138002, 138003, 138004, 138005, 147000, 147001, 147002, 147003, 147004, 147005, 156000, 156001, 156002, 156003, 156004, 156005, 165000, 165001, 165002, 165003, 165004, 165005, 174000, 174001, 174002, 174003, 174004, 174005, 184005, 184006] φ ψ6 := fr_tr hG5 hF6 (by decide)
      have e6 := e5.trans (bnd_e hE6)
      have i2 : Inv (hf_up ψ6 191 0 z6) := iv_upn hI6 (by decide) (by decide) (by decide +kernel)
      have r2 : Fr [18, 19, 20, 21, 22, 23, 24, 25, 44, 45, 46, 47, 48, 49, 50, 51, 109, 111, 112, 113, 114, 115, 116, 117, 118, 120, 121, 122, 123, 124, 125, 126, 127, 129, 130, 131, 132, 133, 134, 135, 136, 138, 139, 140, 141, 142, 143, 144, 145, 147, 148, 149, 150, 151, 152, 153, 154, 156, 157, 158, 159, 160, 161, 162, 163, 165, 166, 167, 168, 169, 170, 171, 172, 174, 175, 176, 177, 178, 179, 180, 181, 184, 185, 186, 191, 1012, 2002, 2003, 2004, 2005, 2006, 2007, 2008, 2009, 2010, 18000, 18001, 18002, 18003, 18004, 18005, 44000, 44001, 44002, 44003, 44004, 44005, 109001, 111000, 111001, 111002, 111003, 111004, 111005, 120000, 120001, 120002, 120003, 120004, 120005, 129000, 129001, 129002, 129003, 129004, 129005, 138000, 138001, 138002, 138003, 138004, 138005, 147000, 147001, 147002, 147003, 147004, 147005, 156000, 156001, 156002, 156003, 156004, 156005, 165000, 165001, 165002, 165003, 165004, 165005, 174000, 174001, 174002, 174003, 174004, 174005, 184005, 184006] φ (hf_up ψ6 191 0 z6) := fr_upa hG6 (by decide)
      have f3 := iv_at (a := 183) (k := 6) (lo := 0) (u := 40) hI6 (by decide +kernel)
      have i4 : Inv (hf_up (hf_up ψ6 191 0 z6) 191 1 (ψ6 183 6)) := iv_upn i2 (by decide) (by decide) (by decide +kernel)
      have r4 : Fr [18, 19, 20, 21, 22, 23, 24, 25, 44, 45, 46, 47, 48, 49, 50, 51, 109, 111, 112, 113, 114, 115, 116, 117, 118, 120, 121, 122, 123, 124, 125, 126, 127, 129, 130, 131, 132, 133, 134, 135, 136, 138, 139, 140, 141, 142, 143, 144, 145, 147, 148, 149, 150, 151, 152, 153, 154, 156, 157, 158, 159, 160, 161, 162, 163, 165, 166, 167, 168, 169, 170, 171, 172, 174, 175, 176, 177, 178, 179, 180, 181, 184, 185, 186, 191, 1012, 2002, 2003, 2004, 2005, 2006, 2007, 2008, 2009, 2010, 18000, 18001, 18002, 18003, 18004, 18005, 44000, 44001, 44002, 44003, 44004, 44005, 109001, 111000, 111001, 111002, 111003, 111004, 111005, 120000, 120001, 120002, 120003, 120004, 120005, 129000, 129001, 129002, 129003, 129004, 129005, 138000, 138001, 138002, 138003, 138004, 138005, 147000, 147001, 147002, 147003, 147004, 147005, 156000, 156001, 156002, 156003, 156004, 156005, 165000, 165001, 165002, 165003, 165004, 165005, 174000, 174001, 174002, 174003, 174004, 174005, 184005, 184006] φ (hf_up (hf_up ψ6 191 0 z6) 191 1 (ψ6 183 6)) := fr_upa r2 (by decide)
      have i5 : Inv (hf_up (hf_up (hf_up ψ6 191 0 z6) 191 1 (ψ6 183 6)) 191 2 (ψ6 43 0)) := iv_upn i4 (by decide) (by decide) (by decide +kernel)
      have r5 : Fr [18, 19, 20, 21, 22, 23, 24, 25, 44, 45, 46, 47, 48, 49, 50, 51, 109, 111, 112, 113, 114, 115, 116, 117, 118, 120, 121, 122, 123, 124, 125, 126, 127, 129, 130, 131, 132, 133, 134, 135, 136, 138, 139, 140, 141, 142, 143, 144, 145, 147, 148, 149, 150, 151, 152, 153, 154, 156, 157, 158, 159, 160, 161, 162, 163, 165, 166, 167, 168, 169, 170, 171, 172, 174, 175, 176, 177, 178, 179, 180, 181, 184, 185, 186, 191, 1012, 2002, 2003, 2004, 2005, 2006, 2007, 2008, 2009, 2010, 18000, 18001, 18002, 18003, 18004, 18005, 44000, 44001, 44002, 44003, 44004, 44005, 109001, 111000, 111001, 111002, 111003, 111004, 111005, 120000, 120001, 120002, 120003, 120004, 120005, 129000, 129001, 129002, 129003, 129004, 129005, 138000, 138001, 138002, 138003, 138004, 138005, 147000, 147001, 147002, 147003, 147004, 147005, 156000, 156001, 156002, 156003, 156004, 156005, 165000, 165001, 165002, 165003, 165004, 165005, 174000, 174001, 174002, 174003, 174004, 174005, 184005, 184006] φ (hf_up (hf_up (hf_up ψ6 191 0 z6) 191 1 (ψ6 183 6)) 191 2 (ψ6 43 0)) := fr_upa r4 (by decide)
      have f6 := iv_at (a := 43) (k := 3) (lo := (-2147483648 : Int)) (u := 2147483647) hI6 (by decide +kernel)
      have i7 : Inv (hf_up (hf_up (hf_up (hf_up ψ6 191 0 z6) 191 1 (ψ6 183 6)) 191 2 (ψ6 43 0)) 191 3 (ψ6 43 3)) := iv_upn i5 (by decide) (by decide) (by decide +kernel)
      have r7 : Fr [18, 19, 20, 21, 22, 23, 24, 25, 44, 45, 46, 47, 48, 49, 50, 51, 109, 111, 112, 113, 114, 115, 116, 117, 118, 120, 121, 122, 123, 124, 125, 126, 127, 129, 130, 131, 132, 133, 134, 135, 136, 138, 139, 140, 141, 142, 143, 144, 145, 147, 148, 149, 150, 151, 152, 153, 154, 156, 157, 158, 159, 160, 161, 162, 163, 165, 166, 167, 168, 169, 170, 171, 172, 174, 175, 176, 177, 178, 179, 180, 181, 184, 185, 186, 191, 1012, 2002, 2003, 2004, 2005, 2006, 2007, 2008, 2009, 2010, 18000, 18001, 18002, 18003, 18004, 18005, 44000, 44001, 44002, 44003, 44004, 44005, 109001, 111000, 111001, 111002, 111003, 111004, 111005, 120000, 120001, 120002, 120003, 120004, 120005, 129000, 129001, 129002, 129003, 129004, 129005, 138000, 138001, 138002, 138003, 138004, 138005, 147000, 147001, 147002, 147003, 147004, 147005, 156000, 156001, 156002, 156003, 156004, 156005, 165000, 165001, 165002, 165003, 165004, 165005, 174000, 174001, 174002, 174003, 174004, 174005, 184005, 184006] φ (hf_up (hf_up (hf_up (hf_up ψ6 191 0 z6) 191 1 (ψ6 183 6)) 191 2 (ψ6 43 0)) 191 3 (ψ6 43 3)) := fr_upa r5 (by decide)
      refine ⟨by unfold hi; omega, by unfold hi; omega, fun q7 => ?_, fun q7 => ?_⟩
      · skip
        have e7a := e6.trans (if_pos q7)
        have f8 := hr_n z6
        refine ⟨fun q8 => ?_, fun q8 => ?_⟩
        · skip
          have e8a := e7a.trans (if_pos q8)
          have f9 := iv_at (a := 1) (k := 2) (lo := 0) (u := 940) hI (by decide +kernel)
          have f10 : (hf_up (hf_up (hf_up (hf_up ψ6 191 0 z6) 191 1 (ψ6 183 6)) 191 2 (ψ6 43 0)) 191 3 (ψ6 43 3)) 1 2 = ψ6 1 2 := ((hf_up_ne (fun q => absurd q.1 (by decide))).trans ((hf_up_ne (fun q => absurd q.1 (by decide))).trans ((hf_up_ne (fun q => absurd q.1 (by decide))).trans (hf_up_ne (fun q => absurd q.1 (by decide))))))
          have f11 := iv_at (a := 1) (k := 2) (lo := 0) (u := 940) hI6 (by decide +kernel)
          have f12 : ψ6 1 2 = ψ5 1 2 := (fr_fd hF6 1 2 (by decide))
          have f13 := iv_at (a := 1) (k := 2) (lo := 0) (u := 940) hI5 (by decide +kernel)
          have f14 : ψ5 1 2 = ψ3 1 2 := (fr_fd hF5 1 2 (by decide))
          exact hQ (ψ6 183 6) (hf_up (hf_up (hf_up (hf_up ψ6 191 0 z6) 191 1 (ψ6 183 6)) 191 2 (ψ6 43 0)) 191 3 (ψ6 43 3)) i7 r7 ⟨trivial, by omega⟩ e8a
        · skip
          have e8b := e7a.trans (if_neg q8)
          have f15 := iv_at (a := 1) (k := 2) (lo := 0) (u := 940) hI (by decide +kernel)
          have f16 : (hf_up (hf_up (hf_up (hf_up ψ6 191 0 z6) 191 1 (ψ6 183 6)) 191 2 (ψ6 43 0)) 191 3 (ψ6 43 3)) 1 2 = ψ6 1 2 := ((hf_up_ne (fun q => absurd q.1 (by decide))).trans ((hf_up_ne (fun q => absurd q.1 (by decide))).trans ((hf_up_ne (fun q => absurd q.1 (by decide))).trans (hf_up_ne (fun q => absurd q.1 (by decide))))))
          have f17 := iv_at (a := 1) (k := 2) (lo := 0) (u := 940) hI6 (by decide +kernel)
          have f18 : ψ6 1 2 = ψ5 1 2 := (fr_fd hF6 1 2 (by decide))
          have f19 := iv_at (a := 1) (k := 2) (lo := 0) (u := 940) hI5 (by decide +kernel)
          have f20 : ψ5 1 2 = ψ3 1 2 := (fr_fd hF5 1 2 (by decide))
          exact hQ (-1 : Int) (hf_up (hf_up (hf_up (hf_up ψ6 191 0 z6) 191 1 (ψ6 183 6)) 191 2 (ψ6 43 0)) 191 3 (ψ6 43 3)) i7 r7 ⟨trivial, by omega⟩ e8b
      · skip
        have e7b := e6.trans (if_neg q7)
        refine ⟨by unfold hi; omega, fun q11 => ?_, fun q11 => ?_⟩
        · skip
          have e11a := e7b.trans (if_pos q11)
          have f21 := hr_n z6
          refine ⟨fun q12 => ?_, fun q12 => ?_⟩
          · skip
            have e12a := e11a.trans (if_pos q12)
            have f22 := iv_at (a := 1) (k := 2) (lo := 0) (u := 940) hI (by decide +kernel)
            have f23 : (hf_up (hf_up (hf_up (hf_up ψ6 191 0 z6) 191 1 (ψ6 183 6)) 191 2 (ψ6 43 0)) 191 3 (ψ6 43 3)) 1 2 = ψ6 1 2 := ((hf_up_ne (fun q => absurd q.1 (by decide))).trans ((hf_up_ne (fun q => absurd q.1 (by decide))).trans ((hf_up_ne (fun q => absurd q.1 (by decide))).trans (hf_up_ne (fun q => absurd q.1 (by decide))))))
            have f24 := iv_at (a := 1) (k := 2) (lo := 0) (u := 940) hI6 (by decide +kernel)
            have f25 : ψ6 1 2 = ψ5 1 2 := (fr_fd hF6 1 2 (by decide))
            have f26 := iv_at (a := 1) (k := 2) (lo := 0) (u := 940) hI5 (by decide +kernel)
            have f27 : ψ5 1 2 = ψ3 1 2 := (fr_fd hF5 1 2 (by decide))
            exact hQ (ψ6 183 6) (hf_up (hf_up (hf_up (hf_up ψ6 191 0 z6) 191 1 (ψ6 183 6)) 191 2 (ψ6 43 0)) 191 3 (ψ6 43 3)) i7 r7 ⟨trivial, by omega⟩ e12a
          · skip
            have e12b := e11a.trans (if_neg q12)
            have f28 := iv_at (a := 1) (k := 2) (lo := 0) (u := 940) hI (by decide +kernel)
            have f29 : (hf_up (hf_up (hf_up (hf_up ψ6 191 0 z6) 191 1 (ψ6 183 6)) 191 2 (ψ6 43 0)) 191 3 (ψ6 43 3)) 1 2 = ψ6 1 2 := ((hf_up_ne (fun q => absurd q.1 (by decide))).trans ((hf_up_ne (fun q => absurd q.1 (by decide))).trans ((hf_up_ne (fun q => absurd q.1 (by decide))).trans (hf_up_ne (fun q => absurd q.1 (by decide))))))
            have f30 := iv_at (a := 1) (k := 2) (lo := 0) (u := 940) hI6 (by decide +kernel)
            have f31 : ψ6 1 2 = ψ5 1 2 := (fr_fd hF6 1 2 (by decide))
            have f32 := iv_at (a := 1) (k := 2) (lo := 0) (u := 940) hI5 (by decide +kernel)
            have f33 : ψ5 1 2 = ψ3 1 2 := (fr_fd hF5 1 2 (by decide))
            exact hQ (-1 : Int) (hf_up (hf_up (hf_up (hf_up ψ6 191 0 z6) 191 1 (ψ6 183 6)) 191 2 (ψ6 43 0)) 191 3 (ψ6 43 3)) i7 r7 ⟨trivial, by omega⟩ e12b
        · skip
          have e11b := e7b.trans (if_neg q11)
          refine sf_80_108_17 (φ := (hf_up (hf_up (hf_up (hf_up ψ6 191 0 z6) 191 1 (ψ6 183 6)) 191 2 (ψ6 43 0)) 191 3 (ψ6 43 3))) i7  (fun ψ15 hI15 hF15 hE15 => ⟨rfl, rfl, ?_⟩)
          have hG15 : Fr [18, 19, 20, 21, 22, 23, 24, 25, 44, 45, 46, 47, 48, 49, 50, 51, 109, 111, 112, 113, 114, 115, 116, 117, 118, 120, 121, 122, 123, 124, 125, 126, 127, 129, 130, 131, 132, 133, 134, 135, 136, 138, 139, 140, 141, 142, 143, 144, 145, 147, 148, 149, 150, 151, 152, 153, 154, 156, 157, 158, 159, 160, 161, 162, 163, 165, 166, 167, 168, 169, 170, 171, 172, 174, 175, 176, 177, 178, 179, 180, 181, 184, 185, 186, 191, 1012, 2002, 2003, 2004, 2005, 2006, 2007, 2008, 2009, 2010, 18000, 18001, 18002, 18003, 18004, 18005, 44000, 44001, 44002, 44003, 44004, 44005, 109001, 111000, 111001, 111002, 111003, 111004, 111005, 120000, 120001, 120002, 120003, 120004, 120005, 129000, 129001, 129002, 129003, 129004, 129005, 138000, 138001, 138002, 138003, 138004, 138005, 147000, 147001, 147002, 147003, 147004, 147005, 156000, 156001, 156002, 156003, 156004, 156005, 165000, 165001, 165002, 165003, 165004, 165005, 174000, 174001, 174002, 174003, 174004, 174005, 184005, 184006] φ ψ15 := fr_tr r7 hF15 (by decide)
          have e15 := e11b.trans (bnv_e hE15)
          refine sf_66_17_43 (φ := ψ15) hI15  (fun ψ16 hI16 hF16 hE16 => ⟨rfl, rfl, ?_⟩)
          have hG16 : Fr [18, 19, 20, 21, 22, 23, 24, 25, 44, 45, 46, 47, 48, 49, 50, 51, 109, 111, 112, 113, 114, 115, 116, 117, 118, 120, 121, 122, 123, 124, 125, 126, 127, 129, 130, 131, 132, 133, 134, 135, 136, 138, 139, 140, 141, 142, 143, 144, 145, 147, 148, 149, 150, 151, 152, 153, 154, 156, 157, 158, 159, 160, 161, 162, 163, 165, 166, 167, 168, 169, 170, 171, 172, 174, 175, 176, 177, 178, 179, 180, 181, 184, 185, 186, 191, 1012, 2002, 2003, 2004, 2005, 2006, 2007, 2008, 2009, 2010, 18000, 18001, 18002, 18003, 18004, 18005, 44000, 44001, 44002, 44003, 44004, 44005, 109001, 111000, 111001, 111002, 111003, 111004, 111005, 120000, 120001, 120002, 120003, 120004, 120005, 129000, 129001, 129002, 129003, 129004, 129005, 138000, 138001, 138002, 138003, 138004, 138005, 147000, 147001, 147002, 147003, 147004, 147005, 156000, 156001, 156002, 156003, 156004, 156005, 165000, 165001, 165002, 165003, 165004, 165005, 174000, 174001, 174002, 174003, 174004, 174005, 184005, 184006] φ ψ16 := fr_tr hG15 hF16 (by decide)
          have e16 := e15.trans (bnv_e hE16)
          have f34 := hr_n z6
          refine ⟨fun q17 => ?_, fun q17 => ?_⟩
          · skip
            have e17a := e16.trans (if_pos q17)
            have f35 := iv_at (a := 183) (k := 6) (lo := 0) (u := 40) hI16 (by decide +kernel)
            have f36 : ψ16 183 6 = ψ15 183 6 := (fr_fd hF16 183 6 (by decide))
            have f37 := iv_at (a := 183) (k := 6) (lo := 0) (u := 40) hI15 (by decide +kernel)
            have f38 : ψ15 183 6 = ψ6 183 6 := (fr_fd hF15 183 6 (by decide)).trans ((hf_up_ne (fun q => absurd q.1 (by decide))).trans ((hf_up_ne (fun q => absurd q.1 (by decide))).trans ((hf_up_ne (fun q => absurd q.1 (by decide))).trans (hf_up_ne (fun q => absurd q.1 (by decide))))))
            have f39 := iv_at (a := 1) (k := 2) (lo := 0) (u := 940) hI (by decide +kernel)
            have f40 := iv_at (a := 1) (k := 2) (lo := 0) (u := 940) hI16 (by decide +kernel)
            have f41 : ψ16 1 2 = ψ15 1 2 := (fr_fd hF16 1 2 (by decide))
            have f42 := iv_at (a := 1) (k := 2) (lo := 0) (u := 940) hI15 (by decide +kernel)
            have f43 : ψ15 1 2 = ψ6 1 2 := (fr_fd hF15 1 2 (by decide)).trans ((hf_up_ne (fun q => absurd q.1 (by decide))).trans ((hf_up_ne (fun q => absurd q.1 (by decide))).trans ((hf_up_ne (fun q => absurd q.1 (by decide))).trans (hf_up_ne (fun q => absurd q.1 (by decide))))))
            have f44 := iv_at (a := 1) (k := 2) (lo := 0) (u := 940) hI6 (by decide +kernel)
            have f45 : ψ6 1 2 = ψ5 1 2 := (fr_fd hF6 1 2 (by decide))
            have f46 := iv_at (a := 1) (k := 2) (lo := 0) (u := 940) hI5 (by decide +kernel)
            have f47 : ψ5 1 2 = ψ3 1 2 := (fr_fd hF5 1 2 (by decide))
            exact hQ (ψ16 183 6) ψ16 hI16 hG16 ⟨trivial, by omega⟩ e17a
          · skip
            have e17b := e16.trans (if_neg q17)
            have f48 := iv_at (a := 1) (k := 2) (lo := 0) (u := 940) hI (by decide +kernel)
            have f49 := iv_at (a := 1) (k := 2) (lo := 0) (u := 940) hI16 (by decide +kernel)
            have f50 : ψ16 1 2 = ψ15 1 2 := (fr_fd hF16 1 2 (by decide))
            have f51 := iv_at (a := 1) (k := 2) (lo := 0) (u := 940) hI15 (by decide +kernel)
            have f52 : ψ15 1 2 = ψ6 1 2 := (fr_fd hF15 1 2 (by decide)).trans ((hf_up_ne (fun q => absurd q.1 (by decide))).trans ((hf_up_ne (fun q => absurd q.1 (by decide))).trans ((hf_up_ne (fun q => absurd q.1 (by decide))).trans (hf_up_ne (fun q => absurd q.1 (by decide))))))
            have f53 := iv_at (a := 1) (k := 2) (lo := 0) (u := 940) hI6 (by decide +kernel)
            have f54 : ψ6 1 2 = ψ5 1 2 := (fr_fd hF6 1 2 (by decide))
            have f55 := iv_at (a := 1) (k := 2) (lo := 0) (u := 940) hI5 (by decide +kernel)
            have f56 : ψ5 1 2 = ψ3 1 2 := (fr_fd hF5 1 2 (by decide))
            exact hQ (-1 : Int) ψ16 hI16 hG16 ⟨trivial, by omega⟩ e17b
    · skip
      have e4b := e3.trans (if_neg q4)
      have f57 := iv_at (a := 1) (k := 10) (lo := 0) (u := 940) hI3 (by decide +kernel)
      have f58 : ψ3 1 10 = ψ2 1 10 := (fr_fd hF3 1 10 (by decide))
      have f59 := iv_at (a := 1) (k := 10) (lo := 0) (u := 940) hI2 (by decide +kernel)
      have f60 := iv_at (a := 1) (k := 2) (lo := 0) (u := 940) hI (by decide +kernel)
      exact hQ ((-2 : Int) - (ψ3 1 10)) ψ3 hI3 hG3 ⟨trivial, by omega⟩ e4b
  · skip
    have e1b := e0.trans (if_neg q1)
    refine ⟨by unfold hi; omega, by unfold hi; omega, fun q21 => ?_, fun q21 => ?_⟩
    · skip
      have e21a := e1b.trans (if_pos q21)
      refine sf_133_183 (φ := φ) hI  (fun z22 ψ22 hI22 hF22 hp22 hE22 => ⟨rfl, z22, rfl, ?_⟩)
      have hG22 : Fr [18, 19, 20, 21, 22, 23, 24, 25, 44, 45, 46, 47, 48, 49, 50, 51, 109, 111, 112, 113, 114, 115, 116, 117, 118, 120, 121, 122, 123, 124, 125, 126, 127, 129, 130, 131, 132, 133, 134, 135, 136, 138, 139, 140, 141, 142, 143, 144, 145, 147, 148, 149, 150, 151, 152, 153, 154, 156, 157, 158, 159, 160, 161, 162, 163, 165, 166, 167, 168, 169, 170, 171, 172, 174, 175, 176, 177, 178, 179, 180, 181, 184, 185, 186, 191, 1012, 2002, 2003, 2004, 2005, 2006, 2007, 2008, 2009, 2010, 18000, 18001, 18002, 18003, 18004, 18005, 44000, 44001, 44002, 44003, 44004, 44005, 109001, 111000, 111001, 111002, 111003, 111004, 111005, 120000, 120001, 120002, 120003, 120004, 120005, 129000, 129001, 129002, 129003, 129004, 129005, 138000, 138001, 138002, 138003, 138004, 138005, 147000, 147001, 147002, 147003, 147004, 147005, 156000, 156001, 156002, 156003, 156004, 156005, 165000, 165001, 165002, 165003, 165004, 165005, 174000, 174001, 174002, 174003, 174004, 174005, 184005, 184006] φ ψ22 := fr_tr (fr_rf) hF22 (by decide)
      have e22 := e21a.trans (bnd_e hE22)
      refine sf_62_0 (φ := ψ22) hI22  (fun ψ23 hI23 hF23 hV23 hE23 => ⟨rfl, rfl, ?_⟩)
      have hG23 : Fr [18, 19, 20, 21, 22, 23, 24, 25, 44, 45, 46, 47, 48, 49, 50, 51, 109, 111, 112, 113, 114, 115, 116, 117, 118, 120, 121, 122, 123, 124, 125, 126, 127, 129, 130, 131, 132, 133, 134, 135, 136, 138, 139, 140, 141, 142, 143, 144, 145, 147, 148, 149, 150, 151, 152, 153, 154, 156, 157, 158, 159, 160, 161, 162, 163, 165, 166, 167, 168, 169, 170, 171, 172, 174, 175, 176, 177, 178, 179, 180, 181, 184, 185, 186, 191, 1012, 2002, 2003, 2004, 2005, 2006, 2007, 2008, 2009, 2010, 18000, 18001, 18002, 18003, 18004, 18005, 44000, 44001, 44002, 44003, 44004, 44005, 109001, 111000, 111001, 111002, 111003, 111004, 111005, 120000, 120001, 120002, 120003, 120004, 120005, 129000, 129001, 129002, 129003, 129004, 129005, 138000, 138001, 138002, 138003, 138004, 138005, 147000, 147001, 147002, 147003, 147004, 147005, 156000, 156001, 156002, 156003, 156004, 156005, 165000, 165001, 165002, 165003, 165004, 165005, 174000, 174001, 174002, 174003, 174004, 174005, 184005, 184006] φ ψ23 := fr_tr hG22 hF23 (by decide)
      have f61 := iv_at (a := 1) (k := 2) (lo := 0) (u := 940) hI23 (by decide +kernel)
      have e23 := e22.trans (bnv_e hE23)
      refine ⟨by unfold hi; omega, fun q24 => ?_, fun q24 => ?_⟩
      · skip
        have e24a := e23.trans (if_pos q24)
        refine sf_66_43_17 (φ := ψ23) hI23  (fun ψ25 hI25 hF25 hE25 => ⟨rfl, rfl, ?_⟩)
        have hG25 : Fr [18, 19, 20, 21, 22, 23, 24, 25, 44, 45, 46, 47, 48, 49, 50, 51, 109, 111, 112, 113, 114, 115, 116, 117, 118, 120, 121, 122, 123, 124, 125, 126, 127, 129, 130, 131, 132, 133, 134, 135, 136, 138, 139, 140, 141, 142, 143, 144, 145, 147, 148, 149, 150, 151, 152, 153, 154, 156, 157, 158, 159, 160, 161, 162, 163, 165, 166, 167, 168, 169, 170, 171, 172, 174, 175, 176, 177, 178, 179, 180, 181, 184, 185, 186, 191, 1012, 2002, 2003, 2004, 2005, 2006, 2007, 2008, 2009, 2010, 18000, 18001, 18002, 18003, 18004, 18005, 44000, 44001, 44002, 44003, 44004, 44005, 109001, 111000, 111001, 111002, 111003, 111004, 111005, 120000, 120001, 120002, 120003, 120004, 120005, 129000, 129001, 129002, 129003, 129004, 129005, 138000, 138001, 138002, 138003, 138004, 138005, 147000, 147001, 147002, 147003, 147004, 147005, 156000, 156001, 156002, 156003, 156004, 156005, 165000, 165001, 165002, 165003, 165004, 165005, 174000, 174001, 174002, 174003, 174004, 174005, 184005, 184006] φ ψ25 := fr_tr hG23 hF25 (by decide)
        have e25 := e24a.trans (bnv_e hE25)
        refine sf_139_183_43 (φ := ψ25) hI25  (fun z26 ψ26 hI26 hF26 hp26 hE26 => ⟨rfl, z26, rfl, ?_⟩)
        have hG26 : Fr [18, 19, 20, 21, 22, 23, 24, 25, 44, 45, 46, 47, 48, 49, 50, 51, 109, 111, 112, 113, 114, 115, 116, 117, 118, 120, 121, 122, 123, 124, 125, 126, 127, 129, 130, 131, 132, 133, 134, 135, 136, 138, 139, 140, 141, 142, 143, 144, 145, 147, 148, 149, 150, 151, 152, 153, 154, 156, 157, 158, 159, 160, 161, 162, 163, 165, 166, 167, 168, 169, 170, 171, 172, 174, 175, 176, 177, 178, 179, 180, 181, 184, 185, 186, 191, 1012, 2002, 2003, 2004, 2005, 2006, 2007, 2008, 2009, 2010, 18000, 18001, 18002, 18003, 18004, 18005, 44000, 44001, 44002, 44003, 44004, 44005, 109001, 111000, 111001, 111002, 111003, 111004, 111005, 120000, 120001, 120002, 120003, 120004, 120005, 129000, 129001, 129002, 129003, 129004, 129005, 138000, 138001, 138002, 138003, 138004, 138005, 147000, 147001, 147002, 147003, 147004, 147005, 156000, 156001, 156002, 156003, 156004, 156005, 165000, 165001, 165002, 165003, 165004, 165005, 174000, 174001, 174002, 174003, 174004, 174005, 184005, 184006] φ ψ26 := fr_tr hG25 hF26 (by decide)
        have e26 := e25.trans (bnd_e hE26)
        have i62 : Inv (hf_up ψ26 191 0 z26) := iv_upn hI26 (by decide) (by decide) (by decide +kernel)
        have r62 : Fr [18, 19, 20, 21, 22, 23, 24, 25, 44, 45, 46, 47, 48, 49, 50, 51, 109, 111, 112, 113, 114, 115, 116, 117, 118, 120, 121, 122, 123, 124, 125, 126, 127, 129, 130, 131, 132, 133, 134, 135, 136, 138, 139, 140, 141, 142, 143, 144, 145, 147, 148, 149, 150, 151, 152, 153, 154, 156, 157, 158, 159, 160, 161, 162, 163, 165, 166, 167, 168, 169, 170, 171, 172, 174, 175, 176, 177, 178, 179, 180, 181, 184, 185, 186, 191, 1012, 2002, 2003, 2004, 2005, 2006, 2007, 2008, 2009, 2010, 18000, 18001, 18002, 18003, 18004, 18005, 44000, 44001, 44002, 44003, 44004, 44005, 109001, 111000, 111001, 111002, 111003, 111004, 111005, 120000, 120001, 120002, 120003, 120004, 120005, 129000, 129001, 129002, 129003, 129004, 129005, 138000, 138001, 138002, 138003, 138004, 138005, 147000, 147001, 147002, 147003, 147004, 147005, 156000, 156001, 156002, 156003, 156004, 156005, 165000, 165001, 165002, 165003, 165004, 165005, 174000, 174001, 174002, 174003, 174004, 174005, 184005, 184006] φ (hf_up ψ26 191 0 z26) := fr_upa hG26 (by decide)
        have f63 := iv_at (a := 183) (k := 6) (lo := 0) (u := 40) hI26 (by decide +kernel)
        have i64 : Inv (hf_up (hf_up ψ26 191 0 z26) 191 1 (ψ26 183 6)) := iv_upn i62 (by decide) (by decide) (by decide +kernel)
        have r64 : Fr [18, 19, 20, 21, 22, 23, 24, 25, 44, 45, 46, 47, 48, 49, 50, 51, 109, 111, 112, 113, 114, 115, 116, 117, 118, 120, 121, 122, 123, 124, 125, 126, 127, 129, 130, 131, 132, 133, 134, 135, 136, 138, 139, 140, 141, 142, 143, 144, 145, 147, 148, 149, 150, 151, 152, 153, 154, 156, 157, 158, 159, 160, 161, 162, 163, 165, 166, 167, 168, 169, 170, 171, 172, 174, 175, 176, 177, 178, 179, 180, 181, 184, 185, 186, 191, 1012, 2002, 2003, 2004, 2005, 2006, 2007, 2008, 2009, 2010, 18000, 18001, 18002, 18003, 18004, 18005, 44000, 44001, 44002, 44003, 44004, 44005, 109001, 111000, 111001, 111002, 111003, 111004, 111005, 120000, 120001, 120002, 120003, 120004, 120005, 129000, 129001, 129002, 129003, 129004, 129005, 138000, 138001, 138002, 138003, 138004, 138005, 147000, 147001, 147002, 147003, 147004, 147005, 156000, 156001, 156002, 156003, 156004, 156005, 165000, 165001, 165002, 165003, 165004, 165005, 174000, 174001, 174002, 174003, 174004, 174005, 184005, 184006] φ (hf_up (hf_up ψ26 191 0 z26) 191 1 (ψ26 183 6)) := fr_upa r62 (by decide)
        have i65 : Inv (hf_up (hf_up (hf_up ψ26 191 0 z26) 191 1 (ψ26 183 6)) 191 2 (ψ26 43 0)) := iv_upn i64 (by decide) (by decide) (by decide +kernel)
        have r65 : Fr [18, 19, 20, 21, 22, 23, 24, 25, 44, 45, 46, 47, 48, 49, 50, 51, 109, 111, 112, 113, 114, 115, 116, 117, 118, 120, 121, 122, 123, 124, 125, 126, 127, 129, 130, 131, 132, 133, 134, 135, 136, 138, 139, 140, 141, 142, 143, 144, 145, 147, 148, 149, 150, 151, 152, 153, 154, 156, 157, 158, 159, 160, 161, 162, 163, 165, 166, 167, 168, 169, 170, 171, 172, 174, 175, 176, 177, 178, 179, 180, 181, 184, 185, 186, 191, 1012, 2002, 2003, 2004, 2005, 2006, 2007, 2008, 2009, 2010, 18000, 18001, 18002, 18003, 18004, 18005, 44000, 44001, 44002, 44003, 44004, 44005, 109001, 111000, 111001, 111002, 111003, 111004, 111005, 120000, 120001, 120002, 120003, 120004, 120005, 129000, 129001, 129002, 129003, 129004, 129005, 138000, 138001, 138002, 138003, 138004, 138005, 147000, 147001, 147002, 147003, 147004, 147005, 156000, 156001, 156002, 156003, 156004, 156005, 165000, 165001, 165002, 165003, 165004, 165005, 174000, 174001, 174002, 174003, 174004, 174005, 184005, 184006] φ (hf_up (hf_up (hf_up ψ26 191 0 z26) 191 1 (ψ26 183 6)) 191 2 (ψ26 43 0)) := fr_upa r64 (by decide)
        have f66 := iv_at (a := 43) (k := 3) (lo := (-2147483648 : Int)) (u := 2147483647) hI26 (by decide +kernel)
        have i67 : Inv (hf_up (hf_up (hf_up (hf_up ψ26 191 0 z26) 191 1 (ψ26 183 6)) 191 2 (ψ26 43 0)) 191 3 (ψ26 43 3)) := iv_upn i65 (by decide) (by decide) (by decide +kernel)
        have r67 : Fr [18, 19, 20, 21, 22, 23, 24, 25, 44, 45, 46, 47, 48, 49, 50, 51, 109, 111, 112, 113, 114, 115, 116, 117, 118, 120, 121, 122, 123, 124, 125, 126, 127, 129, 130, 131, 132, 133, 134, 135, 136, 138, 139, 140, 141, 142, 143, 144, 145, 147, 148, 149, 150, 151, 152, 153, 154, 156, 157, 158, 159, 160, 161, 162, 163, 165, 166, 167, 168, 169, 170, 171, 172, 174, 175, 176, 177, 178, 179, 180, 181, 184, 185, 186, 191, 1012, 2002, 2003, 2004, 2005, 2006, 2007, 2008, 2009, 2010, 18000, 18001, 18002, 18003, 18004, 18005, 44000, 44001, 44002, 44003, 44004, 44005, 109001, 111000, 111001, 111002, 111003, 111004, 111005, 120000, 120001, 120002, 120003, 120004, 120005, 129000, 129001, 129002, 129003, 129004, 129005, 138000, 138001, 138002, 138003, 138004, 138005, 147000, 147001, 147002, 147003, 147004, 147005, 156000, 156001, 156002, 156003, 156004, 156005, 165000, 165001, 165002, 165003, 165004, 165005, 174000, 174001, 174002, 174003, 174004, 174005, 184005, 184006] φ (hf_up (hf_up (hf_up (hf_up ψ26 191 0 z26) 191 1 (ψ26 183 6)) 191 2 (ψ26 43 0)) 191 3 (ψ26 43 3)) := fr_upa r65 (by decide)
        refine ⟨by unfold hi; omega, by unfold hi; omega, fun q27 => ?_, fun q27 => ?_⟩
        · skip
          have e27a := e26.trans (if_pos q27)
          have f68 := hr_n z26
          refine ⟨fun q28 => ?_, fun q28 => ?_⟩
          · skip
            have e28a := e27a.trans (if_pos q28)
            have f69 := iv_at (a := 1) (k := 2) (lo := 0) (u := 940) hI (by decide +kernel)
            have f70 : (hf_up (hf_up (hf_up (hf_up ψ26 191 0 z26) 191 1 (ψ26 183 6)) 191 2 (ψ26 43 0)) 191 3 (ψ26 43 3)) 1 2 = ψ26 1 2 := ((hf_up_ne (fun q => absurd q.1 (by decide))).trans ((hf_up_ne (fun q => absurd q.1 (by decide))).trans ((hf_up_ne (fun q => absurd q.1 (by decide))).trans (hf_up_ne (fun q => absurd q.1 (by decide))))))
            have f71 := iv_at (a := 1) (k := 2) (lo := 0) (u := 940) hI26 (by decide +kernel)
            have f72 : ψ26 1 2 = ψ25 1 2 := (fr_fd hF26 1 2 (by decide))
            have f73 := iv_at (a := 1) (k := 2) (lo := 0) (u := 940) hI25 (by decide +kernel)
            have f74 : ψ25 1 2 = ψ23 1 2 := (fr_fd hF25 1 2 (by decide))
            exact hQ (ψ26 183 6) (hf_up (hf_up (hf_up (hf_up ψ26 191 0 z26) 191 1 (ψ26 183 6)) 191 2 (ψ26 43 0)) 191 3 (ψ26 43 3)) i67 r67 ⟨trivial, by omega⟩ e28a
          · skip
            have e28b := e27a.trans (if_neg q28)
            have f75 := iv_at (a := 1) (k := 2) (lo := 0) (u := 940) hI (by decide +kernel)
            have f76 : (hf_up (hf_up (hf_up (hf_up ψ26 191 0 z26) 191 1 (ψ26 183 6)) 191 2 (ψ26 43 0)) 191 3 (ψ26 43 3)) 1 2 = ψ26 1 2 := ((hf_up_ne (fun q => absurd q.1 (by decide))).trans ((hf_up_ne (fun q => absurd q.1 (by decide))).trans ((hf_up_ne (fun q => absurd q.1 (by decide))).trans (hf_up_ne (fun q => absurd q.1 (by decide))))))
            have f77 := iv_at (a := 1) (k := 2) (lo := 0) (u := 940) hI26 (by decide +kernel)
            have f78 : ψ26 1 2 = ψ25 1 2 := (fr_fd hF26 1 2 (by decide))
            have f79 := iv_at (a := 1) (k := 2) (lo := 0) (u := 940) hI25 (by decide +kernel)
            have f80 : ψ25 1 2 = ψ23 1 2 := (fr_fd hF25 1 2 (by decide))
            exact hQ (-1 : Int) (hf_up (hf_up (hf_up (hf_up ψ26 191 0 z26) 191 1 (ψ26 183 6)) 191 2 (ψ26 43 0)) 191 3 (ψ26 43 3)) i67 r67 ⟨trivial, by omega⟩ e28b
        · skip
          have e27b := e26.trans (if_neg q27)
          refine ⟨by unfold hi; omega, fun q31 => ?_, fun q31 => ?_⟩
          · skip
            have e31a := e27b.trans (if_pos q31)
            have f81 := hr_n z26
            refine ⟨fun q32 => ?_, fun q32 => ?_⟩
            · skip
              have e32a := e31a.trans (if_pos q32)
              have f82 := iv_at (a := 1) (k := 2) (lo := 0) (u := 940) hI (by decide +kernel)
              have f83 : (hf_up (hf_up (hf_up (hf_up ψ26 191 0 z26) 191 1 (ψ26 183 6)) 191 2 (ψ26 43 0)) 191 3 (ψ26 43 3)) 1 2 = ψ26 1 2 := ((hf_up_ne (fun q => absurd q.1 (by decide))).trans ((hf_up_ne (fun q => absurd q.1 (by decide))).trans ((hf_up_ne (fun q => absurd q.1 (by decide))).trans (hf_up_ne (fun q => absurd q.1 (by decide))))))
              have f84 := iv_at (a := 1) (k := 2) (lo := 0) (u := 940) hI26 (by decide +kernel)
              have f85 : ψ26 1 2 = ψ25 1 2 := (fr_fd hF26 1 2 (by decide))
              have f86 := iv_at (a := 1) (k := 2) (lo := 0) (u := 940) hI25 (by decide +kernel)
              have f87 : ψ25 1 2 = ψ23 1 2 := (fr_fd hF25 1 2 (by decide))
              exact hQ (ψ26 183 6) (hf_up (hf_up (hf_up (hf_up ψ26 191 0 z26) 191 1 (ψ26 183 6)) 191 2 (ψ26 43 0)) 191 3 (ψ26 43 3)) i67 r67 ⟨trivial, by omega⟩ e32a
            · skip
              have e32b := e31a.trans (if_neg q32)
              have f88 := iv_at (a := 1) (k := 2) (lo := 0) (u := 940) hI (by decide +kernel)
              have f89 : (hf_up (hf_up (hf_up (hf_up ψ26 191 0 z26) 191 1 (ψ26 183 6)) 191 2 (ψ26 43 0)) 191 3 (ψ26 43 3)) 1 2 = ψ26 1 2 := ((hf_up_ne (fun q => absurd q.1 (by decide))).trans ((hf_up_ne (fun q => absurd q.1 (by decide))).trans ((hf_up_ne (fun q => absurd q.1 (by decide))).trans (hf_up_ne (fun q => absurd q.1 (by decide))))))
              have f90 := iv_at (a := 1) (k := 2) (lo := 0) (u := 940) hI26 (by decide +kernel)
              have f91 : ψ26 1 2 = ψ25 1 2 := (fr_fd hF26 1 2 (by decide))
              have f92 := iv_at (a := 1) (k := 2) (lo := 0) (u := 940) hI25 (by decide +kernel)
              have f93 : ψ25 1 2 = ψ23 1 2 := (fr_fd hF25 1 2 (by decide))
              exact hQ (-1 : Int) (hf_up (hf_up (hf_up (hf_up ψ26 191 0 z26) 191 1 (ψ26 183 6)) 191 2 (ψ26 43 0)) 191 3 (ψ26 43 3)) i67 r67 ⟨trivial, by omega⟩ e32b
          · skip
            have e31b := e27b.trans (if_neg q31)
            refine sf_80_108_17 (φ := (hf_up (hf_up (hf_up (hf_up ψ26 191 0 z26) 191 1 (ψ26 183 6)) 191 2 (ψ26 43 0)) 191 3 (ψ26 43 3))) i67  (fun ψ35 hI35 hF35 hE35 => ⟨rfl, rfl, ?_⟩)
            have hG35 : Fr [18, 19, 20, 21, 22, 23, 24, 25, 44, 45, 46, 47, 48, 49, 50, 51, 109, 111, 112, 113, 114, 115, 116, 117, 118, 120, 121, 122, 123, 124, 125, 126, 127, 129, 130, 131, 132, 133, 134, 135, 136, 138, 139, 140, 141, 142, 143, 144, 145, 147, 148, 149, 150, 151, 152, 153, 154, 156, 157, 158, 159, 160, 161, 162, 163, 165, 166, 167, 168, 169, 170, 171, 172, 174, 175, 176, 177, 178, 179, 180, 181, 184, 185, 186, 191, 1012, 2002, 2003, 2004, 2005, 2006, 2007, 2008, 2009, 2010, 18000, 18001, 18002, 18003, 18004, 18005, 44000, 44001, 44002, 44003, 44004, 44005, 109001, 111000, 111001, 111002, 111003, 111004, 111005, 120000, 120001, 120002, 120003, 120004, 120005, 129000, 129001, 129002, 129003, 129004, 129005, 138000, 138001, 138002, 138003, 138004, 138005, 147000, 147001, 147002, 147003, 147004, 147005, 156000, 156001, 156002, 156003, 156004, 156005, 165000, 165001, 165002, 165003, 165004, 165005, 174000, 174001, 174002, 174003, 174004, 174005, 184005, 184006] φ ψ35 := fr_tr r67 hF35 (by decide)
            have e35 := e31b.trans (bnv_e hE35)
            refine sf_66_17_43 (φ := ψ35) hI35  (fun ψ36 hI36 hF36 hE36 => ⟨rfl, rfl, ?_⟩)
            have hG36 : Fr [18, 19, 20, 21, 22, 23, 24, 25, 44, 45, 46, 47, 48, 49, 50, 51, 109, 111, 112, 113, 114, 115, 116, 117, 118, 120, 121, 122, 123, 124, 125, 126, 127, 129, 130, 131, 132, 133, 134, 135, 136, 138, 139, 140, 141, 142, 143, 144, 145, 147, 148, 149, 150, 151, 152, 153, 154, 156, 157, 158, 159, 160, 161, 162, 163, 165, 166, 167, 168, 169, 170, 171, 172, 174, 175, 176, 177, 178, 179, 180, 181, 184, 185, 186, 191, 1012, 2002, 2003, 2004, 2005, 2006, 2007, 2008, 2009, 2010, 18000, 18001, 18002, 18003, 18004, 18005, 44000, 44001, 44002, 44003, 44004, 44005, 109001, 111000, 111001, 111002, 111003, 111004, 111005, 120000, 120001, 120002, 120003, 120004, 120005, 129000, 129001, 129002, 129003, 129004, 129005, 138000, 138001, 138002, 138003, 138004, 138005, 147000, 147001, 147002, 147003, 147004, 147005, 156000, 156001, 156002, 156003, 156004, 156005, 165000, 165001, 165002, 165003, 165004, 165005, 174000, 174001, 174002, 174003, 174004, 174005, 184005, 184006] φ ψ36 := fr_tr hG35 hF36 (by decide)
            have e36 := e35.trans (bnv_e hE36)
            have f94 := hr_n z26
            refine ⟨fun q37 => ?_, fun q37 => ?_⟩
            · skip
              have e37a := e36.trans (if_pos q37)
              have f95 := iv_at (a := 183) (k := 6) (lo := 0) (u := 40) hI36 (by decide +kernel)
              have f96 : ψ36 183 6 = ψ35 183 6 := (fr_fd hF36 183 6 (by decide))
              have f97 := iv_at (a := 183) (k := 6) (lo := 0) (u := 40) hI35 (by decide +kernel)
              have f98 : ψ35 183 6 = ψ26 183 6 := (fr_fd hF35 183 6 (by decide)).trans ((hf_up_ne (fun q => absurd q.1 (by decide))).trans ((hf_up_ne (fun q => absurd q.1 (by decide))).trans ((hf_up_ne (fun q => absurd q.1 (by decide))).trans (hf_up_ne (fun q => absurd q.1 (by decide))))))
              have f99 := iv_at (a := 1) (k := 2) (lo := 0) (u := 940) hI (by decide +kernel)
              have f100 := iv_at (a := 1) (k := 2) (lo := 0) (u := 940) hI36 (by decide +kernel)
              have f101 : ψ36 1 2 = ψ35 1 2 := (fr_fd hF36 1 2 (by decide))
              have f102 := iv_at (a := 1) (k := 2) (lo := 0) (u := 940) hI35 (by decide +kernel)
              have f103 : ψ35 1 2 = ψ26 1 2 := (fr_fd hF35 1 2 (by decide)).trans ((hf_up_ne (fun q => absurd q.1 (by decide))).trans ((hf_up_ne (fun q => absurd q.1 (by decide))).trans ((hf_up_ne (fun q => absurd q.1 (by decide))).trans (hf_up_ne (fun q => absurd q.1 (by decide))))))
              have f104 := iv_at (a := 1) (k := 2) (lo := 0) (u := 940) hI26 (by decide +kernel)
              have f105 : ψ26 1 2 = ψ25 1 2 := (fr_fd hF26 1 2 (by decide))
              have f106 := iv_at (a := 1) (k := 2) (lo := 0) (u := 940) hI25 (by decide +kernel)
              have f107 : ψ25 1 2 = ψ23 1 2 := (fr_fd hF25 1 2 (by decide))
              exact hQ (ψ36 183 6) ψ36 hI36 hG36 ⟨trivial, by omega⟩ e37a
            · skip
              have e37b := e36.trans (if_neg q37)
              have f108 := iv_at (a := 1) (k := 2) (lo := 0) (u := 940) hI (by decide +kernel)
              have f109 := iv_at (a := 1) (k := 2) (lo := 0) (u := 940) hI36 (by decide +kernel)
              have f110 : ψ36 1 2 = ψ35 1 2 := (fr_fd hF36 1 2 (by decide))
              have f111 := iv_at (a := 1) (k := 2) (lo := 0) (u := 940) hI35 (by decide +kernel)
              have f112 : ψ35 1 2 = ψ26 1 2 := (fr_fd hF35 1 2 (by decide)).trans ((hf_up_ne (fun q => absurd q.1 (by decide))).trans ((hf_up_ne (fun q => absurd q.1 (by decide))).trans ((hf_up_ne (fun q => absurd q.1 (by decide))).trans (hf_up_ne (fun q => absurd q.1 (by decide))))))
              have f113 := iv_at (a := 1) (k := 2) (lo := 0) (u := 940) hI26 (by decide +kernel)
              have f114 : ψ26 1 2 = ψ25 1 2 := (fr_fd hF26 1 2 (by decide))
              have f115 := iv_at (a := 1) (k := 2) (lo := 0) (u := 940) hI25 (by decide +kernel)
              have f116 : ψ25 1 2 = ψ23 1 2 := (fr_fd hF25 1 2 (by decide))
              exact hQ (-1 : Int) ψ36 hI36 hG36 ⟨trivial, by omega⟩ e37b
      · skip
        have e24b := e23.trans (if_neg q24)
        have f117 := iv_at (a := 1) (k := 10) (lo := 0) (u := 940) hI23 (by decide +kernel)
        have f118 : ψ23 1 10 = ψ22 1 10 := (fr_fd hF23 1 10 (by decide))
        have f119 := iv_at (a := 1) (k := 10) (lo := 0) (u := 940) hI22 (by decide +kernel)
        have f120 := iv_at (a := 1) (k := 2) (lo := 0) (u := 940) hI (by decide +kernel)
        exact hQ ((-2 : Int) - (ψ23 1 10)) ψ23 hI23 hG23 ⟨trivial, by omega⟩ e24b
    · skip
      have e21b := e1b.trans (if_neg q21)
      have f121 := iv_at (a := 1) (k := 2) (lo := 0) (u := 940) hI (by decide +kernel)
      exact hQ (-1000 : Int) φ hI (fr_rf) ⟨trivial, by omega⟩ e21b
theorem sf_148_1_v {sc : List Int} {d : Nat} {φ : hf_F} {x : Nat} {Q : Option jm_V → hf_F → Nat → Prop} 
    (H : hi (φ 1 5) ∧ hi 3 ∧ (¬ (φ 1 5) = 3 → Q (some (0, 0)) φ x) ∧ (¬ (¬ (φ 1 5) = 3) → hi (φ 1 7) ∧ hi 14 ∧ ((φ 1 7) < 14 → Q (some (0, 0)) φ x) ∧ (¬ (φ 1 7) < 14 → hi (φ 1 7) ∧ hi 22 ∧ (22 < (φ 1 7) → Q (some (0, 0)) φ x) ∧ (¬ 22 < (φ 1 7) → Q (some (0, 1)) φ x)))) :
    hw sc d 148 0 [(0, (2, 1))] [] φ x Q := by
  refine hw_ald (b := 0) (e := 0) (by decide +kernel) rfl (by decide) ?_
  refine hr_gi (w := φ 1 5) (b := 1) (e := 5) 1 rfl (by decide +kernel) rfl ?_
  refine hw_k (c := 3) (b := 0) (e := 1) (by decide +kernel) ?_
  obtain ⟨hz1, hy1, ht1, hf1⟩ := H
  refine hw_if2 (a0 := 0) (b := 1) (e := 30) (by decide +kernel) hz1 hy1 (fun q => ?_) (fun q => ?_)
  · have H := ht1 q
    refine hw_k (c := 0) (b := 0) (e := 1) (by decide +kernel) ?_
    exact hw_ret (a0 := 0) (e := 1) (by decide +kernel) (Or.inr ⟨rfl, by decide⟩) H
  · have H := hf1 q
    refine hw_ald (b := 0) (e := 0) (by decide +kernel) rfl (by decide) ?_
    refine hr_gi (w := φ 1 7) (b := 1) (e := 7) 1 rfl (by decide +kernel) rfl ?_
    refine hw_k (c := 14) (b := 1) (e := 2) (by decide +kernel) ?_
    obtain ⟨hz3, hy3, ht3, hf3⟩ := H
    refine hw_if2 (a0 := 0) (b := 2) (e := 30) (by decide +kernel) hz3 hy3 (fun q => ?_) (fun q => ?_)
    · have H := ht3 q
      refine hw_k (c := 0) (b := 0) (e := 1) (by decide +kernel) ?_
      exact hw_ret (a0 := 0) (e := 1) (by decide +kernel) (Or.inr ⟨rfl, by decide⟩) H
    · have H := hf3 q
      refine hw_ald (b := 0) (e := 0) (by decide +kernel) rfl (by decide) ?_
      refine hr_gi (w := φ 1 7) (b := 1) (e := 7) 1 rfl (by decide +kernel) rfl ?_
      refine hw_k (c := 22) (b := 1) (e := 2) (by decide +kernel) ?_
      obtain ⟨hz5, hy5, ht5, hf5⟩ := H
      refine hw_if2 (a0 := 0) (b := 4) (e := 30) (by decide +kernel) hz5 hy5 (fun q => ?_) (fun q => ?_)
      · have H := ht5 q
        refine hw_k (c := 0) (b := 0) (e := 1) (by decide +kernel) ?_
        exact hw_ret (a0 := 0) (e := 1) (by decide +kernel) (Or.inr ⟨rfl, by decide⟩) H
      · have H := hf5 q
        refine hw_k (c := 1) (b := 0) (e := 1) (by decide +kernel) ?_
        refine hw_goto (a0 := 0) (b := 0) (e := 31) (by decide +kernel) ?_
        exact hw_ret (a0 := 0) (e := 1) (by decide +kernel) (Or.inr ⟨rfl, by decide⟩) H
theorem sf_148_1 {sc : List Int} {d : Nat} {φ : hf_F} {x : Nat} {Q : Option jm_V → hf_F → Nat → Prop}  (hI : Inv φ)  (hQ : ∀ (r : Int), 0 ≤ r ∧ r ≤ 1 ∧ (r = 1 → 14 ≤ φ 1 7 ∧ φ 1 7 ≤ 22) → F_Sentence_beginsOne_1 φ = r → Q (some (0, r)) φ x) : hw sc d 148 0 [(0, (2, 1))] [] φ x Q := by
  apply sf_148_1_v
  have e0 : F_Sentence_beginsOne_1 φ = _ := rfl
  have f1 := iv_at (a := 1) (k := 5) (lo := 0) (u := 5) hI (by decide +kernel)
  refine ⟨by unfold hi; omega, by unfold hi; omega, fun q1 => ?_, fun q1 => ?_⟩
  · skip
    have e1a := e0.trans (if_pos q1)
    have f2 := iv_at (a := 1) (k := 7) (lo := (-128 : Int)) (u := 999) hI (by decide +kernel)
    exact hQ 0 ⟨by omega, by omega, by omega⟩ e1a
  · skip
    have e1b := e0.trans (if_neg q1)
    have f3 := iv_at (a := 1) (k := 7) (lo := (-128 : Int)) (u := 999) hI (by decide +kernel)
    refine ⟨by unfold hi; omega, by unfold hi; omega, fun q3 => ?_, fun q3 => ?_⟩
    · skip
      have e3a := e1b.trans (if_pos q3)
      exact hQ 0 ⟨by omega, by omega, by omega⟩ e3a
    · skip
      have e3b := e1b.trans (if_neg q3)
      refine ⟨by unfold hi; omega, by unfold hi; omega, fun q5 => ?_, fun q5 => ?_⟩
      · skip
        have e5a := e3b.trans (if_pos q5)
        exact hQ 0 ⟨by omega, by omega, by omega⟩ e5a
      · skip
        have e5b := e3b.trans (if_neg q5)
        exact hQ 1 ⟨by omega, by omega, by omega⟩ e5b
theorem sf_147_52_1_5_k3_9_v {sc : List Int} {d : Nat} {φ : hf_F} {x : Nat} {Q : Option jm_V → hf_F → Nat → Prop} 
    (H : hw sc (d + 3) 61 0 [(0, (2, 1)), (1, (0, 40))] [] φ x (fun r ψ1 y1 => y1 = x ∧ φ = ψ1 ∧ (∃ z1 : Int, r = some (0, z1) ∧ (hi z1 ∧ (¬ z1 = 0 → hi (φ 52 4) ∧ hi 20 ∧ (20 ≤ (φ 52 4) → hw sc (d + 3) 37 0 [(0, (2, 1)), (1, (0, 4))] [] φ x (fun r ψ4 y4 => y4 = x ∧ (∃ z4 : Int, r = some (0, z4) ∧ ((z4 = 0 ∨ z4 = 1) ∧ Q (some (0, z4)) ψ4 x)))) ∧ (¬ 20 ≤ (φ 52 4) → hw sc (d + 3) 37 0 [(0, (2, 1)), (1, (0, 4))] [] φ x (fun r ψ7 y7 => y7 = x ∧ (∃ z7 : Int, r = some (0, z7) ∧ ((z7 = 0 ∨ z7 = 1) ∧ Q (some (0, z7)) ψ7 x))))) ∧ (¬ (¬ z1 = 0) → hw sc (d + 3) 148 0 [(0, (2, 1))] [] φ x (fun r ψ9 y9 => y9 = x ∧ φ = ψ9 ∧ (∃ z9 : Int, r = some (0, z9) ∧ (hi z9 ∧ (¬ z9 = 0 → hi (φ 52 4) ∧ hi 20 ∧ (20 ≤ (φ 52 4) → hw sc (d + 3) 37 0 [(0, (2, 1)), (1, (0, 4))] [] φ x (fun r ψ12 y12 => y12 = x ∧ (∃ z12 : Int, r = some (0, z12) ∧ ((z12 = 0 ∨ z12 = 1) ∧ Q (some (0, z12)) ψ12 x)))) ∧ (¬ 20 ≤ (φ 52 4) → hw sc (d + 3) 37 0 [(0, (2, 1)), (1, (0, 4))] [] φ x (fun r ψ15 y15 => y15 = x ∧ (∃ z15 : Int, r = some (0, z15) ∧ ((z15 = 0 ∨ z15 = 1) ∧ Q (some (0, z15)) ψ15 x))))) ∧ (¬ (¬ z9 = 0) → hw sc (d + 3) 37 0 [(0, (2, 1)), (1, (0, 1))] [] φ x (fun r ψ17 y17 => y17 = x ∧ (∃ z17 : Int, r = some (0, z17) ∧ ((z17 = 0 ∨ z17 = 1) ∧ Q (some (0, z17)) ψ17 x)))))))))))) :
    hw sc (d + 4) 147 0 [(0, (2, 52)), (1, (2, 1)), (2, (2, 5)), (3, (0, 9))] [] φ x Q := by
  refine hw_ald (b := 1) (e := 0) (by decide +kernel) rfl (by decide) ?_
  refine hw_k (c := 40) (b := 1) (e := 2) (by decide +kernel) ?_
  refine hr_call (a0 := 11) (b := 61) (e := 2) (nl := 2) (As := [(0, 40)]) (R := []) 1 rfl (by decide +kernel) rfl rfl (Nat.le_of_ble_eq_true rfl) (Nat.le_of_ble_eq_true rfl) ?_
  refine hw_mono H ?_
  rintro r ψ1 y1 ⟨hyx, hψx, z1, hr, H⟩
  subst hyx
  subst hψx
  subst hr
  refine ⟨hne0, ?_⟩
  show hw sc (d + 4) 147 6 [(0, (2, 52)), (1, (2, 1)), (2, (2, 5)), (3, (0, 9))] [(0, z1)] φ y1 Q
  refine hw_st (L' := (jm_st1 [(0, (2, 52)), (1, (2, 1)), (2, (2, 5)), (3, (0, 9))] 4 (0, z1))) (b := 4) (e := 1) (by decide +kernel) rfl ?_
  refine hw_ld (b := 4) (e := 1) (by decide +kernel) get_st1e ?_
  obtain ⟨hz2, ht2, hf2⟩ := H
  refine hw_if (a0 := 0) (b := 1) (e := 26) (by decide +kernel) hz2 (fun q => ?_) (fun q => ?_)
  · have H := ht2 q
    refine hw_ald (b := 0) (e := 0) (by decide +kernel) (get_st1 rfl (by decide) (fun q => absurd q.1 (by decide))) (by decide) ?_
    refine hr_gi (w := φ 52 4) (b := 5) (e := 4) 52 rfl (by decide +kernel) rfl ?_
    refine hw_k (c := 20) (b := 1) (e := 2) (by decide +kernel) ?_
    obtain ⟨hz3, hy3, ht3, hf3⟩ := H
    refine hw_if2 (a0 := 0) (b := 3) (e := 41) (by decide +kernel) hz3 hy3 (fun q => ?_) (fun q => ?_)
    · have H := ht3 q
      refine hw_ald (b := 1) (e := 0) (by decide +kernel) (get_st1 rfl (by decide) (fun q => absurd q.1 (by decide))) (by decide) ?_
      refine hw_k (c := 4) (b := 0) (e := 1) (by decide +kernel) ?_
      refine hr_call (a0 := 11) (b := 37) (e := 2) (nl := 2) (As := [(0, 4)]) (R := []) 1 rfl (by decide +kernel) rfl rfl (Nat.le_of_ble_eq_true rfl) (Nat.le_of_ble_eq_true rfl) ?_
      refine hw_mono H ?_
      rintro r ψ4 y4 ⟨hyx, z4, hr, H⟩
      subst hyx
      subst hr
      refine ⟨hne0, ?_⟩
      show hw sc (d + 4) 147 46 (jm_st1 [(0, (2, 52)), (1, (2, 1)), (2, (2, 5)), (3, (0, 9))] 4 (0, z1)) [(0, z4)] ψ4 y4 Q
      exact hw_ret (a0 := 0) (e := 1) (by decide +kernel) (Or.inr ⟨rfl, H.1⟩) H.2
    · have H := hf3 q
      refine hw_ld (b := 3) (e := 0) (by decide +kernel) (get_st1 rfl (by decide) (fun q => tg0 q.2)) ?_
      refine hw_k (c := 8) (b := 1) (e := 2) (by decide +kernel) ?_
      refine hw_if2 (a0 := 0) (b := 5) (e := 47) (by decide +kernel) (by unfold hi; omega) (by unfold hi; omega) (fun q => absurd (show (9 : Int) ≤ 8 from q) (by decide)) (fun _ => ?_)
      refine hw_ald (b := 1) (e := 0) (by decide +kernel) (get_st1 rfl (by decide) (fun q => absurd q.1 (by decide))) (by decide) ?_
      refine hw_k (c := 4) (b := 0) (e := 1) (by decide +kernel) ?_
      refine hr_call (a0 := 11) (b := 37) (e := 2) (nl := 2) (As := [(0, 4)]) (R := []) 1 rfl (by decide +kernel) rfl rfl (Nat.le_of_ble_eq_true rfl) (Nat.le_of_ble_eq_true rfl) ?_
      refine hw_mono H ?_
      rintro r ψ7 y7 ⟨hyx, z7, hr, H⟩
      subst hyx
      subst hr
      refine ⟨hne0, ?_⟩
      show hw sc (d + 4) 147 46 (jm_st1 [(0, (2, 52)), (1, (2, 1)), (2, (2, 5)), (3, (0, 9))] 4 (0, z1)) [(0, z7)] ψ7 y7 Q
      exact hw_ret (a0 := 0) (e := 1) (by decide +kernel) (Or.inr ⟨rfl, H.1⟩) H.2
  · have H := hf2 q
    refine hw_ald (b := 1) (e := 0) (by decide +kernel) (get_st1 rfl (by decide) (fun q => absurd q.1 (by decide))) (by decide) ?_
    refine hr_calls (b := 148) (e := 1) (nl := 1) (As := [(2, 1)]) (R := []) (by decide +kernel) rfl rfl (Nat.le_of_ble_eq_true rfl) (Nat.le_of_ble_eq_true rfl) ?_
    refine hw_mono H ?_
    rintro r ψ9 y9 ⟨hyx, hψx, z9, hr, H⟩
    subst hyx
    subst hψx
    subst hr
    refine ⟨hne0, ?_⟩
    show hw sc (d + 4) 147 17 (jm_st1 [(0, (2, 52)), (1, (2, 1)), (2, (2, 5)), (3, (0, 9))] 4 (0, z1)) [(0, z9)] φ y9 Q
    obtain ⟨hz10, ht10, hf10⟩ := H
    refine hw_if (a0 := 0) (b := 1) (e := 26) (by decide +kernel) hz10 (fun q => ?_) (fun q => ?_)
    · have H := ht10 q
      refine hw_ald (b := 0) (e := 0) (by decide +kernel) (get_st1 rfl (by decide) (fun q => absurd q.1 (by decide))) (by decide) ?_
      refine hr_gi (w := φ 52 4) (b := 5) (e := 4) 52 rfl (by decide +kernel) rfl ?_
      refine hw_k (c := 20) (b := 1) (e := 2) (by decide +kernel) ?_
      obtain ⟨hz11, hy11, ht11, hf11⟩ := H
      refine hw_if2 (a0 := 0) (b := 3) (e := 41) (by decide +kernel) hz11 hy11 (fun q => ?_) (fun q => ?_)
      · have H := ht11 q
        refine hw_ald (b := 1) (e := 0) (by decide +kernel) (get_st1 rfl (by decide) (fun q => absurd q.1 (by decide))) (by decide) ?_
        refine hw_k (c := 4) (b := 0) (e := 1) (by decide +kernel) ?_
        refine hr_call (a0 := 11) (b := 37) (e := 2) (nl := 2) (As := [(0, 4)]) (R := []) 1 rfl (by decide +kernel) rfl rfl (Nat.le_of_ble_eq_true rfl) (Nat.le_of_ble_eq_true rfl) ?_
        refine hw_mono H ?_
        rintro r ψ12 y12 ⟨hyx, z12, hr, H⟩
        subst hyx
        subst hr
        refine ⟨hne0, ?_⟩
        show hw sc (d + 4) 147 46 (jm_st1 [(0, (2, 52)), (1, (2, 1)), (2, (2, 5)), (3, (0, 9))] 4 (0, z1)) [(0, z12)] ψ12 y12 Q
        exact hw_ret (a0 := 0) (e := 1) (by decide +kernel) (Or.inr ⟨rfl, H.1⟩) H.2
      · have H := hf11 q
        refine hw_ld (b := 3) (e := 0) (by decide +kernel) (get_st1 rfl (by decide) (fun q => tg0 q.2)) ?_
        refine hw_k (c := 8) (b := 1) (e := 2) (by decide +kernel) ?_
        refine hw_if2 (a0 := 0) (b := 5) (e := 47) (by decide +kernel) (by unfold hi; omega) (by unfold hi; omega) (fun q => absurd (show (9 : Int) ≤ 8 from q) (by decide)) (fun _ => ?_)
        refine hw_ald (b := 1) (e := 0) (by decide +kernel) (get_st1 rfl (by decide) (fun q => absurd q.1 (by decide))) (by decide) ?_
        refine hw_k (c := 4) (b := 0) (e := 1) (by decide +kernel) ?_
        refine hr_call (a0 := 11) (b := 37) (e := 2) (nl := 2) (As := [(0, 4)]) (R := []) 1 rfl (by decide +kernel) rfl rfl (Nat.le_of_ble_eq_true rfl) (Nat.le_of_ble_eq_true rfl) ?_
        refine hw_mono H ?_
        rintro r ψ15 y15 ⟨hyx, z15, hr, H⟩
        subst hyx
        subst hr
        refine ⟨hne0, ?_⟩
        show hw sc (d + 4) 147 46 (jm_st1 [(0, (2, 52)), (1, (2, 1)), (2, (2, 5)), (3, (0, 9))] 4 (0, z1)) [(0, z15)] ψ15 y15 Q
        exact hw_ret (a0 := 0) (e := 1) (by decide +kernel) (Or.inr ⟨rfl, H.1⟩) H.2
    · have H := hf10 q
      refine hw_ald (b := 1) (e := 0) (by decide +kernel) (get_st1 rfl (by decide) (fun q => absurd q.1 (by decide))) (by decide) ?_
      refine hw_k (c := 1) (b := 0) (e := 1) (by decide +kernel) ?_
      refine hr_call (a0 := 11) (b := 37) (e := 2) (nl := 2) (As := [(0, 1)]) (R := []) 1 rfl (by decide +kernel) rfl rfl (Nat.le_of_ble_eq_true rfl) (Nat.le_of_ble_eq_true rfl) ?_
      refine hw_mono H ?_
      rintro r ψ17 y17 ⟨hyx, z17, hr, H⟩
      subst hyx
      subst hr
      refine ⟨hne0, ?_⟩
      show hw sc (d + 4) 147 25 (jm_st1 [(0, (2, 52)), (1, (2, 1)), (2, (2, 5)), (3, (0, 9))] 4 (0, z1)) [(0, z17)] ψ17 y17 Q
      exact hw_ret (a0 := 0) (e := 1) (by decide +kernel) (Or.inr ⟨rfl, H.1⟩) H.2
theorem sf_147_52_1_5_k3_9 {sc : List Int} {d : Nat} {φ : hf_F} {x : Nat} {Q : Option jm_V → hf_F → Nat → Prop}  (hI : Inv φ)  (hQ : ∀ (r : Int) (ψ : hf_F), Inv ψ → Fr [53, 54, 55, 2004, 2005, 2006, 2007, 2008, 2009, 2010, 53003, 53004] φ ψ → 0 ≤ r ∧ r ≤ 1 → F_Sentence_readOne_52_1_5_k3_9 φ = (r, ψ) → Q (some (0, r)) ψ x) : hw sc (d + 4) 147 0 [(0, (2, 52)), (1, (2, 1)), (2, (2, 5)), (3, (0, 9))] [] φ x Q := by
  apply sf_147_52_1_5_k3_9_v
  have e0 : F_Sentence_readOne_52_1_5_k3_9 φ = _ := rfl
  refine sf_61_1 (φ := φ) hI (by omega) (by omega) (fun z1 hp1 hE1 => ⟨rfl, rfl, z1, rfl, ?_⟩)
  have e1 := e0.trans (bnp_e hE1)
  have f1 := iv_at (a := 1) (k := 7) (lo := (-128 : Int)) (u := 999) hI (by decide +kernel)
  refine ⟨by unfold hi; omega, fun q2 => ?_, fun q2 => ?_⟩
  · skip
    have e2a := e1.trans (if_pos q2)
    have f2 := iv_at (a := 52) (k := 4) (lo := 0) (u := 20) hI (by decide +kernel)
    refine ⟨by unfold hi; omega, by unfold hi; omega, fun q3 => ?_, fun q3 => ?_⟩
    · skip
      have e3a := e2a.trans (if_pos q3)
      refine sf_37_1 (φ := φ) hI (by omega) (by omega) (fun z4 ψ4 hI4 hF4 hp4 hE4 => ⟨rfl, z4, rfl, ?_⟩)
      have hG4 : Fr [53, 54, 55, 2004, 2005, 2006, 2007, 2008, 2009, 2010, 53003, 53004] φ ψ4 := fr_tr (fr_rf) hF4 (by decide)
      have e4 := e3a.trans (bnd_e hE4)
      refine ⟨by omega, ?_⟩
      exact hQ z4 ψ4 hI4 hG4 ⟨by omega, by omega⟩ e4
    · skip
      have e3b := e2a.trans (if_neg q3)
      refine sf_37_1 (φ := φ) hI (by omega) (by omega) (fun z7 ψ7 hI7 hF7 hp7 hE7 => ⟨rfl, z7, rfl, ?_⟩)
      have hG7 : Fr [53, 54, 55, 2004, 2005, 2006, 2007, 2008, 2009, 2010, 53003, 53004] φ ψ7 := fr_tr (fr_rf) hF7 (by decide)
      have e7 := e3b.trans (bnd_e hE7)
      refine ⟨by omega, ?_⟩
      exact hQ z7 ψ7 hI7 hG7 ⟨by omega, by omega⟩ e7
  · skip
    have e2b := e1.trans (if_neg q2)
    refine sf_148_1 (φ := φ) hI  (fun z9 hp9 hE9 => ⟨rfl, rfl, z9, rfl, ?_⟩)
    have e9 := e2b.trans (bnp_e hE9)
    refine ⟨by unfold hi; omega, fun q10 => ?_, fun q10 => ?_⟩
    · skip
      have e10a := e9.trans (if_pos q10)
      have f3 := iv_at (a := 52) (k := 4) (lo := 0) (u := 20) hI (by decide +kernel)
      refine ⟨by unfold hi; omega, by unfold hi; omega, fun q11 => ?_, fun q11 => ?_⟩
      · skip
        have e11a := e10a.trans (if_pos q11)
        refine sf_37_1 (φ := φ) hI (by omega) (by omega) (fun z12 ψ12 hI12 hF12 hp12 hE12 => ⟨rfl, z12, rfl, ?_⟩)
        have hG12 : Fr [53, 54, 55, 2004, 2005, 2006, 2007, 2008, 2009, 2010, 53003, 53004] φ ψ12 := fr_tr (fr_rf) hF12 (by decide)
        have e12 := e11a.trans (bnd_e hE12)
        refine ⟨by omega, ?_⟩
        exact hQ z12 ψ12 hI12 hG12 ⟨by omega, by omega⟩ e12
      · skip
        have e11b := e10a.trans (if_neg q11)
        refine sf_37_1 (φ := φ) hI (by omega) (by omega) (fun z15 ψ15 hI15 hF15 hp15 hE15 => ⟨rfl, z15, rfl, ?_⟩)
        have hG15 : Fr [53, 54, 55, 2004, 2005, 2006, 2007, 2008, 2009, 2010, 53003, 53004] φ ψ15 := fr_tr (fr_rf) hF15 (by decide)
        have e15 := e11b.trans (bnd_e hE15)
        refine ⟨by omega, ?_⟩
        exact hQ z15 ψ15 hI15 hG15 ⟨by omega, by omega⟩ e15
    · skip
      have e10b := e9.trans (if_neg q10)
      refine sf_37_1 (φ := φ) hI (by omega) (by omega) (fun z17 ψ17 hI17 hF17 hp17 hE17 => ⟨rfl, z17, rfl, ?_⟩)
      have hG17 : Fr [53, 54, 55, 2004, 2005, 2006, 2007, 2008, 2009, 2010, 53003, 53004] φ ψ17 := fr_tr (fr_rf) hF17 (by decide)
      have e17 := e10b.trans (bnd_e hE17)
      refine ⟨by omega, ?_⟩
      exact hQ z17 ψ17 hI17 hG17 ⟨by omega, by omega⟩ e17
theorem sf_150_52_1_5_k4_1_v {sc : List Int} {d : Nat} {φ : hf_F} {x : Nat} {Q : Option jm_V → hf_F → Nat → Prop} {v3 : Int}
    (H : hw sc (d + 2) 47 0 [(0, (2, 1)), (1, (2, 5)), (2, (0, 1))] [] φ x (fun r ψ1 y1 => y1 = x ∧ (∃ z1 : Int, r = some (0, z1) ∧ (hi z1 ∧ hi (-1 : Int) ∧ (¬ z1 = (-1 : Int) → hw sc (d + 2) 29 0 [(0, (2, 1))] [] ψ1 x (fun r ψ3 y3 => y3 = x ∧ (r = none ∧ (hw sc (d + 2) 149 0 [(0, (2, 52)), (1, (0, v3)), (2, (0, 0)), (3, (0, z1))] [] ψ3 x (fun r ψ4 y4 => y4 = x ∧ (∃ z4 : Int, r = some (0, z4) ∧ ((z4 = 0 ∨ z4 = 1) ∧ Q (some (0, z4)) ψ4 x))))))) ∧ (¬ (¬ z1 = (-1 : Int)) → Q (some (0, 0)) ψ1 x))))) :
    hw sc (d + 3) 150 0 [(0, (2, 52)), (1, (2, 1)), (2, (2, 5)), (3, (0, v3)), (4, (0, 1))] [] φ x Q := by
  refine hw_ald (b := 1) (e := 0) (by decide +kernel) rfl (by decide) ?_
  refine hw_ald (b := 2) (e := 0) (by decide +kernel) rfl (by decide) ?_
  refine hw_ld (b := 4) (e := 1) (by decide +kernel) rfl ?_
  refine hr_call (a0 := 11) (b := 47) (e := 3) (nl := 4) (As := [(2, 5), (0, 1)]) (R := []) 1 rfl (by decide +kernel) rfl rfl (Nat.le_of_ble_eq_true rfl) (Nat.le_of_ble_eq_true rfl) ?_
  refine hw_mono H ?_
  rintro r ψ1 y1 ⟨hyx, z1, hr, H⟩
  subst hyx
  subst hr
  refine ⟨hne0, ?_⟩
  show hw sc (d + 3) 150 7 [(0, (2, 52)), (1, (2, 1)), (2, (2, 5)), (3, (0, v3)), (4, (0, 1))] [(0, z1)] ψ1 y1 Q
  refine hw_st (L' := (jm_st1 [(0, (2, 52)), (1, (2, 1)), (2, (2, 5)), (3, (0, v3)), (4, (0, 1))] 5 (0, z1))) (b := 5) (e := 1) (by decide +kernel) rfl ?_
  refine hw_ld (b := 5) (e := 1) (by decide +kernel) get_st1e ?_
  refine hw_k (c := (-1 : Int)) (b := 0) (e := 1) (by decide +kernel) ?_
  obtain ⟨hz2, hy2, ht2, hf2⟩ := H
  refine hw_if2 (a0 := 0) (b := 1) (e := 17) (by decide +kernel) hz2 hy2 (fun q => ?_) (fun q => ?_)
  · have H := ht2 q
    refine hw_ald (b := 1) (e := 0) (by decide +kernel) (get_st1 rfl (by decide) (fun q => absurd q.1 (by decide))) (by decide) ?_
    refine hr_call (a0 := 11) (b := 29) (e := 1) (nl := 1) (As := []) (R := []) 1 rfl (by decide +kernel) rfl rfl (Nat.le_of_ble_eq_true rfl) (Nat.le_of_ble_eq_true rfl) ?_
    refine hw_mono H ?_
    rintro r ψ3 y3 ⟨hyx, hr, H⟩
    subst hyx
    subst hr
    refine ⟨hnen, ?_⟩
    show hw sc (d + 3) 150 21 (jm_st1 [(0, (2, 52)), (1, (2, 1)), (2, (2, 5)), (3, (0, v3)), (4, (0, 1))] 5 (0, z1)) [] ψ3 y3 Q
    refine hw_ald (b := 0) (e := 0) (by decide +kernel) (get_st1 rfl (by decide) (fun q => absurd q.1 (by decide))) (by decide) ?_
    refine hw_ld (b := 3) (e := 0) (by decide +kernel) (get_st1 rfl (by decide) (fun q => absurd q.1 (by decide))) ?_
    refine hw_k (c := 0) (b := 0) (e := 1) (by decide +kernel) ?_
    refine hw_ld (b := 5) (e := 1) (by decide +kernel) get_st1e ?_
    refine hr_call (a0 := 15) (b := 149) (e := 4) (nl := 4) (As := [(0, v3), (0, 0), (0, z1)]) (R := []) 52 rfl (by decide +kernel) rfl rfl (Nat.le_of_ble_eq_true rfl) (Nat.le_of_ble_eq_true rfl) ?_
    refine hw_mono H ?_
    rintro r ψ4 y4 ⟨hyx, z4, hr, H⟩
    subst hyx
    subst hr
    refine ⟨hne0, ?_⟩
    show hw sc (d + 3) 150 29 (jm_st1 [(0, (2, 52)), (1, (2, 1)), (2, (2, 5)), (3, (0, v3)), (4, (0, 1))] 5 (0, z1)) [(0, z4)] ψ4 y4 Q
    exact hw_ret (a0 := 0) (e := 1) (by decide +kernel) (Or.inr ⟨rfl, H.1⟩) H.2
  · have H := hf2 q
    refine hw_k (c := 0) (b := 0) (e := 1) (by decide +kernel) ?_
    exact hw_ret (a0 := 0) (e := 1) (by decide +kernel) (Or.inr ⟨rfl, by decide⟩) H
theorem sf_150_52_1_5_k4_1 {sc : List Int} {d : Nat} {φ : hf_F} {x : Nat} {Q : Option jm_V → hf_F → Nat → Prop} {v3 : Int} (hI : Inv φ) (h3a : 0 ≤ v3) (h3b : v3 ≤ 22) (hQ : ∀ (r : Int) (ψ : hf_F), Inv ψ → Fr [53, 54, 55, 2004, 2005, 2006, 2007, 2008, 2009, 2010, 53003] φ ψ → 0 ≤ r ∧ r ≤ 1 → F_Sentence_readNamed_52_1_5_k4_1 φ v3 = (r, ψ) → Q (some (0, r)) ψ x) : hw sc (d + 3) 150 0 [(0, (2, 52)), (1, (2, 1)), (2, (2, 5)), (3, (0, v3)), (4, (0, 1))] [] φ x Q := by
  apply sf_150_52_1_5_k4_1_v
  have e0 : F_Sentence_readNamed_52_1_5_k4_1 φ v3 = _ := rfl
  refine sf_47_1_5_k2_1 (φ := φ) hI  (fun z1 ψ1 hI1 hF1 hp1 hE1 => ⟨rfl, z1, rfl, ?_⟩)
  have hG1 : Fr [53, 54, 55, 2004, 2005, 2006, 2007, 2008, 2009, 2010, 53003] φ ψ1 := fr_tr (fr_rf) hF1 (by decide)
  have f1 := iv_at (a := 6) (k := 1) (lo := 0) (u := 8) hI (by decide +kernel)
  have e1 := e0.trans (bnd_e hE1)
  refine ⟨by unfold hi; omega, by unfold hi; omega, fun q2 => ?_, fun q2 => ?_⟩
  · skip
    have e2a := e1.trans (if_pos q2)
    refine sf_29_1 (φ := ψ1) hI1  (fun ψ3 hI3 hF3 hE3 => ⟨rfl, rfl, ?_⟩)
    have hG3 : Fr [53, 54, 55, 2004, 2005, 2006, 2007, 2008, 2009, 2010, 53003] φ ψ3 := fr_tr hG1 hF3 (by decide)
    have e3 := e2a.trans (bnv_e hE3)
    refine sf_149_52 (φ := ψ3) hI3 (by omega) (by omega) (by omega) (by omega) (by omega) (by omega) (fun z4 ψ4 hI4 hF4 hp4 hE4 => ⟨rfl, z4, rfl, ?_⟩)
    have hG4 : Fr [53, 54, 55, 2004, 2005, 2006, 2007, 2008, 2009, 2010, 53003] φ ψ4 := fr_tr hG3 hF4 (by decide)
    have e4 := e3.trans (bnd_e hE4)
    refine ⟨by omega, ?_⟩
    exact hQ z4 ψ4 hI4 hG4 ⟨by omega, by omega⟩ e4
  · skip
    have e2b := e1.trans (if_neg q2)
    exact hQ 0 ψ1 hI1 hG1 ⟨by omega, by omega⟩ e2b
theorem sf_150_52_1_5_k4_2_v {sc : List Int} {d : Nat} {φ : hf_F} {x : Nat} {Q : Option jm_V → hf_F → Nat → Prop} {v3 : Int}
    (H : hw sc (d + 2) 47 0 [(0, (2, 1)), (1, (2, 5)), (2, (0, 2))] [] φ x (fun r ψ1 y1 => y1 = x ∧ (∃ z1 : Int, r = some (0, z1) ∧ (hi z1 ∧ hi (-1 : Int) ∧ (¬ z1 = (-1 : Int) → hw sc (d + 2) 29 0 [(0, (2, 1))] [] ψ1 x (fun r ψ3 y3 => y3 = x ∧ (r = none ∧ (hw sc (d + 2) 149 0 [(0, (2, 52)), (1, (0, v3)), (2, (0, 0)), (3, (0, z1))] [] ψ3 x (fun r ψ4 y4 => y4 = x ∧ (∃ z4 : Int, r = some (0, z4) ∧ ((z4 = 0 ∨ z4 = 1) ∧ Q (some (0, z4)) ψ4 x))))))) ∧ (¬ (¬ z1 = (-1 : Int)) → Q (some (0, 0)) ψ1 x))))) :
    hw sc (d + 3) 150 0 [(0, (2, 52)), (1, (2, 1)), (2, (2, 5)), (3, (0, v3)), (4, (0, 2))] [] φ x Q := by
  refine hw_ald (b := 1) (e := 0) (by decide +kernel) rfl (by decide) ?_
  refine hw_ald (b := 2) (e := 0) (by decide +kernel) rfl (by decide) ?_
  refine hw_ld (b := 4) (e := 1) (by decide +kernel) rfl ?_
  refine hr_call (a0 := 11) (b := 47) (e := 3) (nl := 4) (As := [(2, 5), (0, 2)]) (R := []) 1 rfl (by decide +kernel) rfl rfl (Nat.le_of_ble_eq_true rfl) (Nat.le_of_ble_eq_true rfl) ?_
  refine hw_mono H ?_
  rintro r ψ1 y1 ⟨hyx, z1, hr, H⟩
  subst hyx
  subst hr
  refine ⟨hne0, ?_⟩
  show hw sc (d + 3) 150 7 [(0, (2, 52)), (1, (2, 1)), (2, (2, 5)), (3, (0, v3)), (4, (0, 2))] [(0, z1)] ψ1 y1 Q
  refine hw_st (L' := (jm_st1 [(0, (2, 52)), (1, (2, 1)), (2, (2, 5)), (3, (0, v3)), (4, (0, 2))] 5 (0, z1))) (b := 5) (e := 1) (by decide +kernel) rfl ?_
  refine hw_ld (b := 5) (e := 1) (by decide +kernel) get_st1e ?_
  refine hw_k (c := (-1 : Int)) (b := 0) (e := 1) (by decide +kernel) ?_
  obtain ⟨hz2, hy2, ht2, hf2⟩ := H
  refine hw_if2 (a0 := 0) (b := 1) (e := 17) (by decide +kernel) hz2 hy2 (fun q => ?_) (fun q => ?_)
  · have H := ht2 q
    refine hw_ald (b := 1) (e := 0) (by decide +kernel) (get_st1 rfl (by decide) (fun q => absurd q.1 (by decide))) (by decide) ?_
    refine hr_call (a0 := 11) (b := 29) (e := 1) (nl := 1) (As := []) (R := []) 1 rfl (by decide +kernel) rfl rfl (Nat.le_of_ble_eq_true rfl) (Nat.le_of_ble_eq_true rfl) ?_
    refine hw_mono H ?_
    rintro r ψ3 y3 ⟨hyx, hr, H⟩
    subst hyx
    subst hr
    refine ⟨hnen, ?_⟩
    show hw sc (d + 3) 150 21 (jm_st1 [(0, (2, 52)), (1, (2, 1)), (2, (2, 5)), (3, (0, v3)), (4, (0, 2))] 5 (0, z1)) [] ψ3 y3 Q
    refine hw_ald (b := 0) (e := 0) (by decide +kernel) (get_st1 rfl (by decide) (fun q => absurd q.1 (by decide))) (by decide) ?_
    refine hw_ld (b := 3) (e := 0) (by decide +kernel) (get_st1 rfl (by decide) (fun q => absurd q.1 (by decide))) ?_
    refine hw_k (c := 0) (b := 0) (e := 1) (by decide +kernel) ?_
    refine hw_ld (b := 5) (e := 1) (by decide +kernel) get_st1e ?_
    refine hr_call (a0 := 15) (b := 149) (e := 4) (nl := 4) (As := [(0, v3), (0, 0), (0, z1)]) (R := []) 52 rfl (by decide +kernel) rfl rfl (Nat.le_of_ble_eq_true rfl) (Nat.le_of_ble_eq_true rfl) ?_
    refine hw_mono H ?_
    rintro r ψ4 y4 ⟨hyx, z4, hr, H⟩
    subst hyx
    subst hr
    refine ⟨hne0, ?_⟩
    show hw sc (d + 3) 150 29 (jm_st1 [(0, (2, 52)), (1, (2, 1)), (2, (2, 5)), (3, (0, v3)), (4, (0, 2))] 5 (0, z1)) [(0, z4)] ψ4 y4 Q
    exact hw_ret (a0 := 0) (e := 1) (by decide +kernel) (Or.inr ⟨rfl, H.1⟩) H.2
  · have H := hf2 q
    refine hw_k (c := 0) (b := 0) (e := 1) (by decide +kernel) ?_
    exact hw_ret (a0 := 0) (e := 1) (by decide +kernel) (Or.inr ⟨rfl, by decide⟩) H
theorem sf_150_52_1_5_k4_2 {sc : List Int} {d : Nat} {φ : hf_F} {x : Nat} {Q : Option jm_V → hf_F → Nat → Prop} {v3 : Int} (hI : Inv φ) (h3a : 0 ≤ v3) (h3b : v3 ≤ 22) (hQ : ∀ (r : Int) (ψ : hf_F), Inv ψ → Fr [53, 54, 55, 2004, 2005, 2006, 2007, 2008, 2009, 2010, 53003] φ ψ → 0 ≤ r ∧ r ≤ 1 → F_Sentence_readNamed_52_1_5_k4_2 φ v3 = (r, ψ) → Q (some (0, r)) ψ x) : hw sc (d + 3) 150 0 [(0, (2, 52)), (1, (2, 1)), (2, (2, 5)), (3, (0, v3)), (4, (0, 2))] [] φ x Q := by
  apply sf_150_52_1_5_k4_2_v
  have e0 : F_Sentence_readNamed_52_1_5_k4_2 φ v3 = _ := rfl
  refine sf_47_1_5_k2_2 (φ := φ) hI  (fun z1 ψ1 hI1 hF1 hp1 hE1 => ⟨rfl, z1, rfl, ?_⟩)
  have hG1 : Fr [53, 54, 55, 2004, 2005, 2006, 2007, 2008, 2009, 2010, 53003] φ ψ1 := fr_tr (fr_rf) hF1 (by decide)
  have f1 := iv_at (a := 6) (k := 2) (lo := 0) (u := 8) hI (by decide +kernel)
  have e1 := e0.trans (bnd_e hE1)
  refine ⟨by unfold hi; omega, by unfold hi; omega, fun q2 => ?_, fun q2 => ?_⟩
  · skip
    have e2a := e1.trans (if_pos q2)
    refine sf_29_1 (φ := ψ1) hI1  (fun ψ3 hI3 hF3 hE3 => ⟨rfl, rfl, ?_⟩)
    have hG3 : Fr [53, 54, 55, 2004, 2005, 2006, 2007, 2008, 2009, 2010, 53003] φ ψ3 := fr_tr hG1 hF3 (by decide)
    have e3 := e2a.trans (bnv_e hE3)
    refine sf_149_52 (φ := ψ3) hI3 (by omega) (by omega) (by omega) (by omega) (by omega) (by omega) (fun z4 ψ4 hI4 hF4 hp4 hE4 => ⟨rfl, z4, rfl, ?_⟩)
    have hG4 : Fr [53, 54, 55, 2004, 2005, 2006, 2007, 2008, 2009, 2010, 53003] φ ψ4 := fr_tr hG3 hF4 (by decide)
    have e4 := e3.trans (bnd_e hE4)
    refine ⟨by omega, ?_⟩
    exact hQ z4 ψ4 hI4 hG4 ⟨by omega, by omega⟩ e4
  · skip
    have e2b := e1.trans (if_neg q2)
    exact hQ 0 ψ1 hI1 hG1 ⟨by omega, by omega⟩ e2b
theorem sf_151_52_1_v {sc : List Int} {d : Nat} {φ : hf_F} {x : Nat} {Q : Option jm_V → hf_F → Nat → Prop} {v2 : Int}
    (H : hw sc (d + 2) 61 0 [(0, (2, 1)), (1, (0, 60))] [] φ x (fun r ψ1 y1 => y1 = x ∧ φ = ψ1 ∧ (∃ z1 : Int, r = some (0, z1) ∧ (hi z1 ∧ (¬ z1 = 0 → hw sc (d + 2) 29 0 [(0, (2, 1))] [] φ x (fun r ψ3 y3 => y3 = x ∧ (r = none ∧ (hw sc (d + 2) 43 0 [(0, (2, 1)), (1, (0, 0)), (2, (0, 999))] [] ψ3 x (fun r ψ4 y4 => y4 = x ∧ (∃ z4 : Int, r = some (0, z4) ∧ (hi z4 ∧ hi (-1 : Int) ∧ (¬ z4 = (-1 : Int) → hw sc (d + 2) 29 0 [(0, (2, 1))] [] ψ4 x (fun r ψ6 y6 => y6 = x ∧ (r = none ∧ (hw sc (d + 2) 149 0 [(0, (2, 52)), (1, (0, v2)), (2, (0, φ 1 7)), (3, (0, z4))] [] ψ6 x (fun r ψ7 y7 => y7 = x ∧ (∃ z7 : Int, r = some (0, z7) ∧ ((z7 = 0 ∨ z7 = 1) ∧ Q (some (0, z7)) ψ7 x))))))) ∧ (¬ (¬ z4 = (-1 : Int)) → Q (some (0, 0)) ψ4 x)))))))) ∧ (¬ (¬ z1 = 0) → hw sc (d + 2) 61 0 [(0, (2, 1)), (1, (0, 61))] [] φ x (fun r ψ10 y10 => y10 = x ∧ φ = ψ10 ∧ (∃ z10 : Int, r = some (0, z10) ∧ (hi z10 ∧ (¬ z10 = 0 → hw sc (d + 2) 29 0 [(0, (2, 1))] [] φ x (fun r ψ12 y12 => y12 = x ∧ (r = none ∧ (hw sc (d + 2) 43 0 [(0, (2, 1)), (1, (0, 0)), (2, (0, 999))] [] ψ12 x (fun r ψ13 y13 => y13 = x ∧ (∃ z13 : Int, r = some (0, z13) ∧ (hi z13 ∧ hi (-1 : Int) ∧ (¬ z13 = (-1 : Int) → hw sc (d + 2) 29 0 [(0, (2, 1))] [] ψ13 x (fun r ψ15 y15 => y15 = x ∧ (r = none ∧ (hw sc (d + 2) 149 0 [(0, (2, 52)), (1, (0, v2)), (2, (0, φ 1 7)), (3, (0, z13))] [] ψ15 x (fun r ψ16 y16 => y16 = x ∧ (∃ z16 : Int, r = some (0, z16) ∧ ((z16 = 0 ∨ z16 = 1) ∧ Q (some (0, z16)) ψ16 x))))))) ∧ (¬ (¬ z13 = (-1 : Int)) → Q (some (0, 0)) ψ13 x)))))))) ∧ (¬ (¬ z10 = 0) → hw sc (d + 2) 61 0 [(0, (2, 1)), (1, (0, 62))] [] φ x (fun r ψ19 y19 => y19 = x ∧ φ = ψ19 ∧ (∃ z19 : Int, r = some (0, z19) ∧ (hi z19 ∧ (¬ z19 = 0 → hw sc (d + 2) 29 0 [(0, (2, 1))] [] φ x (fun r ψ21 y21 => y21 = x ∧ (r = none ∧ (hw sc (d + 2) 43 0 [(0, (2, 1)), (1, (0, 0)), (2, (0, 999))] [] ψ21 x (fun r ψ22 y22 => y22 = x ∧ (∃ z22 : Int, r = some (0, z22) ∧ (hi z22 ∧ hi (-1 : Int) ∧ (¬ z22 = (-1 : Int) → hw sc (d + 2) 29 0 [(0, (2, 1))] [] ψ22 x (fun r ψ24 y24 => y24 = x ∧ (r = none ∧ (hw sc (d + 2) 149 0 [(0, (2, 52)), (1, (0, v2)), (2, (0, φ 1 7)), (3, (0, z22))] [] ψ24 x (fun r ψ25 y25 => y25 = x ∧ (∃ z25 : Int, r = some (0, z25) ∧ ((z25 = 0 ∨ z25 = 1) ∧ Q (some (0, z25)) ψ25 x))))))) ∧ (¬ (¬ z22 = (-1 : Int)) → Q (some (0, 0)) ψ22 x)))))))) ∧ (¬ (¬ z19 = 0) → hw sc (d + 2) 37 0 [(0, (2, 1)), (1, (0, 1))] [] φ x (fun r ψ28 y28 => y28 = x ∧ (∃ z28 : Int, r = some (0, z28) ∧ ((z28 = 0 ∨ z28 = 1) ∧ Q (some (0, z28)) ψ28 x)))))))))))))))) :
    hw sc (d + 3) 151 0 [(0, (2, 52)), (1, (2, 1)), (2, (0, v2))] [] φ x Q := by
  refine hw_ald (b := 1) (e := 0) (by decide +kernel) rfl (by decide) ?_
  refine hw_k (c := 60) (b := 1) (e := 2) (by decide +kernel) ?_
  refine hr_call (a0 := 11) (b := 61) (e := 2) (nl := 2) (As := [(0, 60)]) (R := []) 1 rfl (by decide +kernel) rfl rfl (Nat.le_of_ble_eq_true rfl) (Nat.le_of_ble_eq_true rfl) ?_
  refine hw_mono H ?_
  rintro r ψ1 y1 ⟨hyx, hψx, z1, hr, H⟩
  subst hyx
  subst hψx
  subst hr
  refine ⟨hne0, ?_⟩
  show hw sc (d + 3) 151 6 [(0, (2, 52)), (1, (2, 1)), (2, (0, v2))] [(0, z1)] φ y1 Q
  obtain ⟨hz2, ht2, hf2⟩ := H
  refine hw_if (a0 := 0) (b := 1) (e := 33) (by decide +kernel) hz2 (fun q => ?_) (fun q => ?_)
  · have H := ht2 q
    refine hw_ald (b := 1) (e := 0) (by decide +kernel) rfl (by decide) ?_
    refine hr_gi (w := φ 1 7) (b := 1) (e := 7) 1 rfl (by decide +kernel) rfl ?_
    refine hw_st (L' := (jm_st1 [(0, (2, 52)), (1, (2, 1)), (2, (0, v2))] 3 (0, φ 1 7))) (b := 3) (e := 0) (by decide +kernel) rfl ?_
    refine hw_ald (b := 1) (e := 0) (by decide +kernel) (get_st1 rfl (by decide) (fun q => absurd q.1 (by decide))) (by decide) ?_
    refine hr_call (a0 := 11) (b := 29) (e := 1) (nl := 1) (As := []) (R := []) 1 rfl (by decide +kernel) rfl rfl (Nat.le_of_ble_eq_true rfl) (Nat.le_of_ble_eq_true rfl) ?_
    refine hw_mono H ?_
    rintro r ψ3 y3 ⟨hyx, hr, H⟩
    subst hyx
    subst hr
    refine ⟨hnen, ?_⟩
    show hw sc (d + 3) 151 42 (jm_st1 [(0, (2, 52)), (1, (2, 1)), (2, (0, v2))] 3 (0, φ 1 7)) [] ψ3 y3 Q
    refine hw_ald (b := 1) (e := 0) (by decide +kernel) (get_st1 rfl (by decide) (fun q => absurd q.1 (by decide))) (by decide) ?_
    refine hw_k (c := 0) (b := 0) (e := 1) (by decide +kernel) ?_
    refine hw_k (c := 999) (b := 2) (e := 3) (by decide +kernel) ?_
    refine hr_call (a0 := 11) (b := 43) (e := 3) (nl := 3) (As := [(0, 0), (0, 999)]) (R := []) 1 rfl (by decide +kernel) rfl rfl (Nat.le_of_ble_eq_true rfl) (Nat.le_of_ble_eq_true rfl) ?_
    refine hw_mono H ?_
    rintro r ψ4 y4 ⟨hyx, z4, hr, H⟩
    subst hyx
    subst hr
    refine ⟨hne0, ?_⟩
    show hw sc (d + 3) 151 50 (jm_st1 [(0, (2, 52)), (1, (2, 1)), (2, (0, v2))] 3 (0, φ 1 7)) [(0, z4)] ψ4 y4 Q
    refine hw_st (L' := (jm_st1 (jm_st1 [(0, (2, 52)), (1, (2, 1)), (2, (0, v2))] 3 (0, φ 1 7)) 4 (0, z4))) (b := 4) (e := 1) (by decide +kernel) rfl ?_
    refine hw_ld (b := 4) (e := 1) (by decide +kernel) get_st1e ?_
    refine hw_k (c := (-1 : Int)) (b := 0) (e := 1) (by decide +kernel) ?_
    obtain ⟨hz5, hy5, ht5, hf5⟩ := H
    refine hw_if2 (a0 := 0) (b := 1) (e := 60) (by decide +kernel) hz5 hy5 (fun q => ?_) (fun q => ?_)
    · have H := ht5 q
      refine hw_ald (b := 1) (e := 0) (by decide +kernel) (get_st1 (get_st1 rfl (by decide) (fun q => absurd q.1 (by decide))) (by decide) (fun q => absurd q.1 (by decide))) (by decide) ?_
      refine hr_call (a0 := 11) (b := 29) (e := 1) (nl := 1) (As := []) (R := []) 1 rfl (by decide +kernel) rfl rfl (Nat.le_of_ble_eq_true rfl) (Nat.le_of_ble_eq_true rfl) ?_
      refine hw_mono H ?_
      rintro r ψ6 y6 ⟨hyx, hr, H⟩
      subst hyx
      subst hr
      refine ⟨hnen, ?_⟩
      show hw sc (d + 3) 151 64 (jm_st1 (jm_st1 [(0, (2, 52)), (1, (2, 1)), (2, (0, v2))] 3 (0, φ 1 7)) 4 (0, z4)) [] ψ6 y6 Q
      refine hw_ald (b := 0) (e := 0) (by decide +kernel) (get_st1 (get_st1 rfl (by decide) (fun q => absurd q.1 (by decide))) (by decide) (fun q => absurd q.1 (by decide))) (by decide) ?_
      refine hw_ld (b := 2) (e := 0) (by decide +kernel) (get_st1 (get_st1 rfl (by decide) (fun q => tg0 q.2)) (by decide) (fun q => absurd q.1 (by decide))) ?_
      refine hw_ld (b := 3) (e := 0) (by decide +kernel) (get_st1 get_st1e (by decide) (fun q => tg0 q.2)) ?_
      refine hw_ld (b := 4) (e := 1) (by decide +kernel) get_st1e ?_
      refine hr_call (a0 := 15) (b := 149) (e := 4) (nl := 4) (As := [(0, v2), (0, φ 1 7), (0, z4)]) (R := []) 52 rfl (by decide +kernel) rfl rfl (Nat.le_of_ble_eq_true rfl) (Nat.le_of_ble_eq_true rfl) ?_
      refine hw_mono H ?_
      rintro r ψ7 y7 ⟨hyx, z7, hr, H⟩
      subst hyx
      subst hr
      refine ⟨hne0, ?_⟩
      show hw sc (d + 3) 151 72 (jm_st1 (jm_st1 [(0, (2, 52)), (1, (2, 1)), (2, (0, v2))] 3 (0, φ 1 7)) 4 (0, z4)) [(0, z7)] ψ7 y7 Q
      exact hw_ret (a0 := 0) (e := 1) (by decide +kernel) (Or.inr ⟨rfl, H.1⟩) H.2
    · have H := hf5 q
      refine hw_k (c := 0) (b := 0) (e := 1) (by decide +kernel) ?_
      exact hw_ret (a0 := 0) (e := 1) (by decide +kernel) (Or.inr ⟨rfl, by decide⟩) H
  · have H := hf2 q
    refine hw_ald (b := 1) (e := 0) (by decide +kernel) rfl (by decide) ?_
    refine hw_k (c := 61) (b := 1) (e := 2) (by decide +kernel) ?_
    refine hr_call (a0 := 11) (b := 61) (e := 2) (nl := 2) (As := [(0, 61)]) (R := []) 1 rfl (by decide +kernel) rfl rfl (Nat.le_of_ble_eq_true rfl) (Nat.le_of_ble_eq_true rfl) ?_
    refine hw_mono H ?_
    rintro r ψ10 y10 ⟨hyx, hψx, z10, hr, H⟩
    subst hyx
    subst hψx
    subst hr
    refine ⟨hne0, ?_⟩
    show hw sc (d + 3) 151 15 [(0, (2, 52)), (1, (2, 1)), (2, (0, v2))] [(0, z10)] φ y10 Q
    obtain ⟨hz11, ht11, hf11⟩ := H
    refine hw_if (a0 := 0) (b := 1) (e := 33) (by decide +kernel) hz11 (fun q => ?_) (fun q => ?_)
    · have H := ht11 q
      refine hw_ald (b := 1) (e := 0) (by decide +kernel) rfl (by decide) ?_
      refine hr_gi (w := φ 1 7) (b := 1) (e := 7) 1 rfl (by decide +kernel) rfl ?_
      refine hw_st (L' := (jm_st1 [(0, (2, 52)), (1, (2, 1)), (2, (0, v2))] 3 (0, φ 1 7))) (b := 3) (e := 0) (by decide +kernel) rfl ?_
      refine hw_ald (b := 1) (e := 0) (by decide +kernel) (get_st1 rfl (by decide) (fun q => absurd q.1 (by decide))) (by decide) ?_
      refine hr_call (a0 := 11) (b := 29) (e := 1) (nl := 1) (As := []) (R := []) 1 rfl (by decide +kernel) rfl rfl (Nat.le_of_ble_eq_true rfl) (Nat.le_of_ble_eq_true rfl) ?_
      refine hw_mono H ?_
      rintro r ψ12 y12 ⟨hyx, hr, H⟩
      subst hyx
      subst hr
      refine ⟨hnen, ?_⟩
      show hw sc (d + 3) 151 42 (jm_st1 [(0, (2, 52)), (1, (2, 1)), (2, (0, v2))] 3 (0, φ 1 7)) [] ψ12 y12 Q
      refine hw_ald (b := 1) (e := 0) (by decide +kernel) (get_st1 rfl (by decide) (fun q => absurd q.1 (by decide))) (by decide) ?_
      refine hw_k (c := 0) (b := 0) (e := 1) (by decide +kernel) ?_
      refine hw_k (c := 999) (b := 2) (e := 3) (by decide +kernel) ?_
      refine hr_call (a0 := 11) (b := 43) (e := 3) (nl := 3) (As := [(0, 0), (0, 999)]) (R := []) 1 rfl (by decide +kernel) rfl rfl (Nat.le_of_ble_eq_true rfl) (Nat.le_of_ble_eq_true rfl) ?_
      refine hw_mono H ?_
      rintro r ψ13 y13 ⟨hyx, z13, hr, H⟩
      subst hyx
      subst hr
      refine ⟨hne0, ?_⟩
      show hw sc (d + 3) 151 50 (jm_st1 [(0, (2, 52)), (1, (2, 1)), (2, (0, v2))] 3 (0, φ 1 7)) [(0, z13)] ψ13 y13 Q
      refine hw_st (L' := (jm_st1 (jm_st1 [(0, (2, 52)), (1, (2, 1)), (2, (0, v2))] 3 (0, φ 1 7)) 4 (0, z13))) (b := 4) (e := 1) (by decide +kernel) rfl ?_
      refine hw_ld (b := 4) (e := 1) (by decide +kernel) get_st1e ?_
      refine hw_k (c := (-1 : Int)) (b := 0) (e := 1) (by decide +kernel) ?_
      obtain ⟨hz14, hy14, ht14, hf14⟩ := H
      refine hw_if2 (a0 := 0) (b := 1) (e := 60) (by decide +kernel) hz14 hy14 (fun q => ?_) (fun q => ?_)
      · have H := ht14 q
        refine hw_ald (b := 1) (e := 0) (by decide +kernel) (get_st1 (get_st1 rfl (by decide) (fun q => absurd q.1 (by decide))) (by decide) (fun q => absurd q.1 (by decide))) (by decide) ?_
        refine hr_call (a0 := 11) (b := 29) (e := 1) (nl := 1) (As := []) (R := []) 1 rfl (by decide +kernel) rfl rfl (Nat.le_of_ble_eq_true rfl) (Nat.le_of_ble_eq_true rfl) ?_
        refine hw_mono H ?_
        rintro r ψ15 y15 ⟨hyx, hr, H⟩
        subst hyx
        subst hr
        refine ⟨hnen, ?_⟩
        show hw sc (d + 3) 151 64 (jm_st1 (jm_st1 [(0, (2, 52)), (1, (2, 1)), (2, (0, v2))] 3 (0, φ 1 7)) 4 (0, z13)) [] ψ15 y15 Q
        refine hw_ald (b := 0) (e := 0) (by decide +kernel) (get_st1 (get_st1 rfl (by decide) (fun q => absurd q.1 (by decide))) (by decide) (fun q => absurd q.1 (by decide))) (by decide) ?_
        refine hw_ld (b := 2) (e := 0) (by decide +kernel) (get_st1 (get_st1 rfl (by decide) (fun q => tg0 q.2)) (by decide) (fun q => absurd q.1 (by decide))) ?_
        refine hw_ld (b := 3) (e := 0) (by decide +kernel) (get_st1 get_st1e (by decide) (fun q => tg0 q.2)) ?_
        refine hw_ld (b := 4) (e := 1) (by decide +kernel) get_st1e ?_
        refine hr_call (a0 := 15) (b := 149) (e := 4) (nl := 4) (As := [(0, v2), (0, φ 1 7), (0, z13)]) (R := []) 52 rfl (by decide +kernel) rfl rfl (Nat.le_of_ble_eq_true rfl) (Nat.le_of_ble_eq_true rfl) ?_
        refine hw_mono H ?_
        rintro r ψ16 y16 ⟨hyx, z16, hr, H⟩
        subst hyx
        subst hr
        refine ⟨hne0, ?_⟩
        show hw sc (d + 3) 151 72 (jm_st1 (jm_st1 [(0, (2, 52)), (1, (2, 1)), (2, (0, v2))] 3 (0, φ 1 7)) 4 (0, z13)) [(0, z16)] ψ16 y16 Q
        exact hw_ret (a0 := 0) (e := 1) (by decide +kernel) (Or.inr ⟨rfl, H.1⟩) H.2
      · have H := hf14 q
        refine hw_k (c := 0) (b := 0) (e := 1) (by decide +kernel) ?_
        exact hw_ret (a0 := 0) (e := 1) (by decide +kernel) (Or.inr ⟨rfl, by decide⟩) H
    · have H := hf11 q
      refine hw_ald (b := 1) (e := 0) (by decide +kernel) rfl (by decide) ?_
      refine hw_k (c := 62) (b := 1) (e := 2) (by decide +kernel) ?_
      refine hr_call (a0 := 11) (b := 61) (e := 2) (nl := 2) (As := [(0, 62)]) (R := []) 1 rfl (by decide +kernel) rfl rfl (Nat.le_of_ble_eq_true rfl) (Nat.le_of_ble_eq_true rfl) ?_
      refine hw_mono H ?_
      rintro r ψ19 y19 ⟨hyx, hψx, z19, hr, H⟩
      subst hyx
      subst hψx
      subst hr
      refine ⟨hne0, ?_⟩
      show hw sc (d + 3) 151 24 [(0, (2, 52)), (1, (2, 1)), (2, (0, v2))] [(0, z19)] φ y19 Q
      obtain ⟨hz20, ht20, hf20⟩ := H
      refine hw_if (a0 := 0) (b := 1) (e := 33) (by decide +kernel) hz20 (fun q => ?_) (fun q => ?_)
      · have H := ht20 q
        refine hw_ald (b := 1) (e := 0) (by decide +kernel) rfl (by decide) ?_
        refine hr_gi (w := φ 1 7) (b := 1) (e := 7) 1 rfl (by decide +kernel) rfl ?_
        refine hw_st (L' := (jm_st1 [(0, (2, 52)), (1, (2, 1)), (2, (0, v2))] 3 (0, φ 1 7))) (b := 3) (e := 0) (by decide +kernel) rfl ?_
        refine hw_ald (b := 1) (e := 0) (by decide +kernel) (get_st1 rfl (by decide) (fun q => absurd q.1 (by decide))) (by decide) ?_
        refine hr_call (a0 := 11) (b := 29) (e := 1) (nl := 1) (As := []) (R := []) 1 rfl (by decide +kernel) rfl rfl (Nat.le_of_ble_eq_true rfl) (Nat.le_of_ble_eq_true rfl) ?_
        refine hw_mono H ?_
        rintro r ψ21 y21 ⟨hyx, hr, H⟩
        subst hyx
        subst hr
        refine ⟨hnen, ?_⟩
        show hw sc (d + 3) 151 42 (jm_st1 [(0, (2, 52)), (1, (2, 1)), (2, (0, v2))] 3 (0, φ 1 7)) [] ψ21 y21 Q
        refine hw_ald (b := 1) (e := 0) (by decide +kernel) (get_st1 rfl (by decide) (fun q => absurd q.1 (by decide))) (by decide) ?_
        refine hw_k (c := 0) (b := 0) (e := 1) (by decide +kernel) ?_
        refine hw_k (c := 999) (b := 2) (e := 3) (by decide +kernel) ?_
        refine hr_call (a0 := 11) (b := 43) (e := 3) (nl := 3) (As := [(0, 0), (0, 999)]) (R := []) 1 rfl (by decide +kernel) rfl rfl (Nat.le_of_ble_eq_true rfl) (Nat.le_of_ble_eq_true rfl) ?_
        refine hw_mono H ?_
        rintro r ψ22 y22 ⟨hyx, z22, hr, H⟩
        subst hyx
        subst hr
        refine ⟨hne0, ?_⟩
        show hw sc (d + 3) 151 50 (jm_st1 [(0, (2, 52)), (1, (2, 1)), (2, (0, v2))] 3 (0, φ 1 7)) [(0, z22)] ψ22 y22 Q
        refine hw_st (L' := (jm_st1 (jm_st1 [(0, (2, 52)), (1, (2, 1)), (2, (0, v2))] 3 (0, φ 1 7)) 4 (0, z22))) (b := 4) (e := 1) (by decide +kernel) rfl ?_
        refine hw_ld (b := 4) (e := 1) (by decide +kernel) get_st1e ?_
        refine hw_k (c := (-1 : Int)) (b := 0) (e := 1) (by decide +kernel) ?_
        obtain ⟨hz23, hy23, ht23, hf23⟩ := H
        refine hw_if2 (a0 := 0) (b := 1) (e := 60) (by decide +kernel) hz23 hy23 (fun q => ?_) (fun q => ?_)
        · have H := ht23 q
          refine hw_ald (b := 1) (e := 0) (by decide +kernel) (get_st1 (get_st1 rfl (by decide) (fun q => absurd q.1 (by decide))) (by decide) (fun q => absurd q.1 (by decide))) (by decide) ?_
          refine hr_call (a0 := 11) (b := 29) (e := 1) (nl := 1) (As := []) (R := []) 1 rfl (by decide +kernel) rfl rfl (Nat.le_of_ble_eq_true rfl) (Nat.le_of_ble_eq_true rfl) ?_
          refine hw_mono H ?_
          rintro r ψ24 y24 ⟨hyx, hr, H⟩
          subst hyx
          subst hr
          refine ⟨hnen, ?_⟩
          show hw sc (d + 3) 151 64 (jm_st1 (jm_st1 [(0, (2, 52)), (1, (2, 1)), (2, (0, v2))] 3 (0, φ 1 7)) 4 (0, z22)) [] ψ24 y24 Q
          refine hw_ald (b := 0) (e := 0) (by decide +kernel) (get_st1 (get_st1 rfl (by decide) (fun q => absurd q.1 (by decide))) (by decide) (fun q => absurd q.1 (by decide))) (by decide) ?_
          refine hw_ld (b := 2) (e := 0) (by decide +kernel) (get_st1 (get_st1 rfl (by decide) (fun q => tg0 q.2)) (by decide) (fun q => absurd q.1 (by decide))) ?_
          refine hw_ld (b := 3) (e := 0) (by decide +kernel) (get_st1 get_st1e (by decide) (fun q => tg0 q.2)) ?_
          refine hw_ld (b := 4) (e := 1) (by decide +kernel) get_st1e ?_
          refine hr_call (a0 := 15) (b := 149) (e := 4) (nl := 4) (As := [(0, v2), (0, φ 1 7), (0, z22)]) (R := []) 52 rfl (by decide +kernel) rfl rfl (Nat.le_of_ble_eq_true rfl) (Nat.le_of_ble_eq_true rfl) ?_
          refine hw_mono H ?_
          rintro r ψ25 y25 ⟨hyx, z25, hr, H⟩
          subst hyx
          subst hr
          refine ⟨hne0, ?_⟩
          show hw sc (d + 3) 151 72 (jm_st1 (jm_st1 [(0, (2, 52)), (1, (2, 1)), (2, (0, v2))] 3 (0, φ 1 7)) 4 (0, z22)) [(0, z25)] ψ25 y25 Q
          exact hw_ret (a0 := 0) (e := 1) (by decide +kernel) (Or.inr ⟨rfl, H.1⟩) H.2
        · have H := hf23 q
          refine hw_k (c := 0) (b := 0) (e := 1) (by decide +kernel) ?_
          exact hw_ret (a0 := 0) (e := 1) (by decide +kernel) (Or.inr ⟨rfl, by decide⟩) H
      · have H := hf20 q
        refine hw_ald (b := 1) (e := 0) (by decide +kernel) rfl (by decide) ?_
        refine hw_k (c := 1) (b := 0) (e := 1) (by decide +kernel) ?_
        refine hr_call (a0 := 11) (b := 37) (e := 2) (nl := 2) (As := [(0, 1)]) (R := []) 1 rfl (by decide +kernel) rfl rfl (Nat.le_of_ble_eq_true rfl) (Nat.le_of_ble_eq_true rfl) ?_
        refine hw_mono H ?_
        rintro r ψ28 y28 ⟨hyx, z28, hr, H⟩
        subst hyx
        subst hr
        refine ⟨hne0, ?_⟩
        show hw sc (d + 3) 151 32 [(0, (2, 52)), (1, (2, 1)), (2, (0, v2))] [(0, z28)] ψ28 y28 Q
        exact hw_ret (a0 := 0) (e := 1) (by decide +kernel) (Or.inr ⟨rfl, H.1⟩) H.2
theorem sf_151_52_1 {sc : List Int} {d : Nat} {φ : hf_F} {x : Nat} {Q : Option jm_V → hf_F → Nat → Prop} {v2 : Int} (hI : Inv φ) (h2a : 0 ≤ v2) (h2b : v2 ≤ 22) (hQ : ∀ (r : Int) (ψ : hf_F), Inv ψ → Fr [53, 54, 55, 2004, 2005, 2006, 2007, 2008, 2009, 2010, 53003] φ ψ → 0 ≤ r ∧ r ≤ 1 → F_Sentence_readCompared_52_1 φ v2 = (r, ψ) → Q (some (0, r)) ψ x) : hw sc (d + 3) 151 0 [(0, (2, 52)), (1, (2, 1)), (2, (0, v2))] [] φ x Q := by
  apply sf_151_52_1_v
  have e0 : F_Sentence_readCompared_52_1 φ v2 = _ := rfl
  refine sf_61_1 (φ := φ) hI (by omega) (by omega) (fun z1 hp1 hE1 => ⟨rfl, rfl, z1, rfl, ?_⟩)
  have e1 := e0.trans (bnp_e hE1)
  have f1 := iv_at (a := 1) (k := 7) (lo := (-128 : Int)) (u := 999) hI (by decide +kernel)
  refine ⟨by unfold hi; omega, fun q2 => ?_, fun q2 => ?_⟩
  · skip
    have e2a := e1.trans (if_pos q2)
    refine sf_29_1 (φ := φ) hI  (fun ψ3 hI3 hF3 hE3 => ⟨rfl, rfl, ?_⟩)
    have hG3 : Fr [53, 54, 55, 2004, 2005, 2006, 2007, 2008, 2009, 2010, 53003] φ ψ3 := fr_tr (fr_rf) hF3 (by decide)
    have e3 := e2a.trans (bnv_e hE3)
    refine sf_43_1 (φ := ψ3) hI3 (by omega) (by omega) (by omega) (by omega) (fun z4 ψ4 hI4 hF4 hp4 hE4 => ⟨rfl, z4, rfl, ?_⟩)
    have hG4 : Fr [53, 54, 55, 2004, 2005, 2006, 2007, 2008, 2009, 2010, 53003] φ ψ4 := fr_tr hG3 hF4 (by decide)
    have e4 := e3.trans (bnd_e hE4)
    refine ⟨by unfold hi; omega, by unfold hi; omega, fun q5 => ?_, fun q5 => ?_⟩
    · skip
      have e5a := e4.trans (if_pos q5)
      refine sf_29_1 (φ := ψ4) hI4  (fun ψ6 hI6 hF6 hE6 => ⟨rfl, rfl, ?_⟩)
      have hG6 : Fr [53, 54, 55, 2004, 2005, 2006, 2007, 2008, 2009, 2010, 53003] φ ψ6 := fr_tr hG4 hF6 (by decide)
      have e6 := e5a.trans (bnv_e hE6)
      refine sf_149_52 (φ := ψ6) hI6 (by omega) (by omega) (by omega) (by omega) (by omega) (by omega) (fun z7 ψ7 hI7 hF7 hp7 hE7 => ⟨rfl, z7, rfl, ?_⟩)
      have hG7 : Fr [53, 54, 55, 2004, 2005, 2006, 2007, 2008, 2009, 2010, 53003] φ ψ7 := fr_tr hG6 hF7 (by decide)
      have e7 := e6.trans (bnd_e hE7)
      refine ⟨by omega, ?_⟩
      exact hQ z7 ψ7 hI7 hG7 ⟨by omega, by omega⟩ e7
    · skip
      have e5b := e4.trans (if_neg q5)
      exact hQ 0 ψ4 hI4 hG4 ⟨by omega, by omega⟩ e5b
  · skip
    have e2b := e1.trans (if_neg q2)
    refine sf_61_1 (φ := φ) hI (by omega) (by omega) (fun z10 hp10 hE10 => ⟨rfl, rfl, z10, rfl, ?_⟩)
    have e10 := e2b.trans (bnp_e hE10)
    refine ⟨by unfold hi; omega, fun q11 => ?_, fun q11 => ?_⟩
    · skip
      have e11a := e10.trans (if_pos q11)
      refine sf_29_1 (φ := φ) hI  (fun ψ12 hI12 hF12 hE12 => ⟨rfl, rfl, ?_⟩)
      have hG12 : Fr [53, 54, 55, 2004, 2005, 2006, 2007, 2008, 2009, 2010, 53003] φ ψ12 := fr_tr (fr_rf) hF12 (by decide)
      have e12 := e11a.trans (bnv_e hE12)
      refine sf_43_1 (φ := ψ12) hI12 (by omega) (by omega) (by omega) (by omega) (fun z13 ψ13 hI13 hF13 hp13 hE13 => ⟨rfl, z13, rfl, ?_⟩)
      have hG13 : Fr [53, 54, 55, 2004, 2005, 2006, 2007, 2008, 2009, 2010, 53003] φ ψ13 := fr_tr hG12 hF13 (by decide)
      have e13 := e12.trans (bnd_e hE13)
      refine ⟨by unfold hi; omega, by unfold hi; omega, fun q14 => ?_, fun q14 => ?_⟩
      · skip
        have e14a := e13.trans (if_pos q14)
        refine sf_29_1 (φ := ψ13) hI13  (fun ψ15 hI15 hF15 hE15 => ⟨rfl, rfl, ?_⟩)
        have hG15 : Fr [53, 54, 55, 2004, 2005, 2006, 2007, 2008, 2009, 2010, 53003] φ ψ15 := fr_tr hG13 hF15 (by decide)
        have e15 := e14a.trans (bnv_e hE15)
        refine sf_149_52 (φ := ψ15) hI15 (by omega) (by omega) (by omega) (by omega) (by omega) (by omega) (fun z16 ψ16 hI16 hF16 hp16 hE16 => ⟨rfl, z16, rfl, ?_⟩)
        have hG16 : Fr [53, 54, 55, 2004, 2005, 2006, 2007, 2008, 2009, 2010, 53003] φ ψ16 := fr_tr hG15 hF16 (by decide)
        have e16 := e15.trans (bnd_e hE16)
        refine ⟨by omega, ?_⟩
        exact hQ z16 ψ16 hI16 hG16 ⟨by omega, by omega⟩ e16
      · skip
        have e14b := e13.trans (if_neg q14)
        exact hQ 0 ψ13 hI13 hG13 ⟨by omega, by omega⟩ e14b
    · skip
      have e11b := e10.trans (if_neg q11)
      refine sf_61_1 (φ := φ) hI (by omega) (by omega) (fun z19 hp19 hE19 => ⟨rfl, rfl, z19, rfl, ?_⟩)
      have e19 := e11b.trans (bnp_e hE19)
      refine ⟨by unfold hi; omega, fun q20 => ?_, fun q20 => ?_⟩
      · skip
        have e20a := e19.trans (if_pos q20)
        refine sf_29_1 (φ := φ) hI  (fun ψ21 hI21 hF21 hE21 => ⟨rfl, rfl, ?_⟩)
        have hG21 : Fr [53, 54, 55, 2004, 2005, 2006, 2007, 2008, 2009, 2010, 53003] φ ψ21 := fr_tr (fr_rf) hF21 (by decide)
        have e21 := e20a.trans (bnv_e hE21)
        refine sf_43_1 (φ := ψ21) hI21 (by omega) (by omega) (by omega) (by omega) (fun z22 ψ22 hI22 hF22 hp22 hE22 => ⟨rfl, z22, rfl, ?_⟩)
        have hG22 : Fr [53, 54, 55, 2004, 2005, 2006, 2007, 2008, 2009, 2010, 53003] φ ψ22 := fr_tr hG21 hF22 (by decide)
        have e22 := e21.trans (bnd_e hE22)
        refine ⟨by unfold hi; omega, by unfold hi; omega, fun q23 => ?_, fun q23 => ?_⟩
        · skip
          have e23a := e22.trans (if_pos q23)
          refine sf_29_1 (φ := ψ22) hI22  (fun ψ24 hI24 hF24 hE24 => ⟨rfl, rfl, ?_⟩)
          have hG24 : Fr [53, 54, 55, 2004, 2005, 2006, 2007, 2008, 2009, 2010, 53003] φ ψ24 := fr_tr hG22 hF24 (by decide)
          have e24 := e23a.trans (bnv_e hE24)
          refine sf_149_52 (φ := ψ24) hI24 (by omega) (by omega) (by omega) (by omega) (by omega) (by omega) (fun z25 ψ25 hI25 hF25 hp25 hE25 => ⟨rfl, z25, rfl, ?_⟩)
          have hG25 : Fr [53, 54, 55, 2004, 2005, 2006, 2007, 2008, 2009, 2010, 53003] φ ψ25 := fr_tr hG24 hF25 (by decide)
          have e25 := e24.trans (bnd_e hE25)
          refine ⟨by omega, ?_⟩
          exact hQ z25 ψ25 hI25 hG25 ⟨by omega, by omega⟩ e25
        · skip
          have e23b := e22.trans (if_neg q23)
          exact hQ 0 ψ22 hI22 hG22 ⟨by omega, by omega⟩ e23b
      · skip
        have e20b := e19.trans (if_neg q20)
        refine sf_37_1 (φ := φ) hI (by omega) (by omega) (fun z28 ψ28 hI28 hF28 hp28 hE28 => ⟨rfl, z28, rfl, ?_⟩)
        have hG28 : Fr [53, 54, 55, 2004, 2005, 2006, 2007, 2008, 2009, 2010, 53003] φ ψ28 := fr_tr (fr_rf) hF28 (by decide)
        have e28 := e20b.trans (bnd_e hE28)
        refine ⟨by omega, ?_⟩
        exact hQ z28 ψ28 hI28 hG28 ⟨by omega, by omega⟩ e28
noncomputable def FG_147 (fc fo : hf_F → Int × hf_F) (φ : hf_F) : Int × hf_F := (bnp (F_Reader_isSignOf_1 φ 40) (fun z1 => (if ¬ z1 = 0 then (if 20 ≤ (φ 52 4) then (bnd (F_Reader_refuse_1 φ 4) (fun z4 ψ4 => (z4, ψ4))) else (bnv (F_Reader_advance_1 (hf_up φ 52 4 ((φ 52 4) + 1))) (fun ψ7 => (if z1 = 0 then (if (φ 1 7) = 14 then (bnd (fo ψ7) (fun z10 ψ10 => (if z10 = 0 then (0, ψ10) else (bnd (F_Sentence_add_52 ψ10 (φ 1 7) 0 0) (fun z13 ψ13 => (if z13 = 0 then (0, ψ13) else (1, ψ13))))))) else (if (φ 1 7) = 15 then (bnd (F_Sentence_add_52 ψ7 (φ 1 7) 0 0) (fun z17 ψ17 => (z17, ψ17))) else (if (φ 1 7) = 16 then (bnd (F_Sentence_add_52 ψ7 (φ 1 7) 0 0) (fun z19 ψ19 => (z19, ψ19))) else (if (φ 1 7) = 17 then (bnd (F_Sentence_add_52 ψ7 (φ 1 7) 0 0) (fun z21 ψ21 => (z21, ψ21))) else (if (φ 1 7) = 18 then (bnd (F_Sentence_readNamed_52_1_5_k4_1 ψ7 (φ 1 7)) (fun z23 ψ23 => (z23, ψ23))) else (if (φ 1 7) = 19 then (bnd (F_Sentence_readNamed_52_1_5_k4_2 ψ7 (φ 1 7)) (fun z25 ψ25 => (z25, ψ25))) else (if (φ 1 7) = 20 then (bnd (F_Sentence_readCompared_52_1 ψ7 (φ 1 7)) (fun z27 ψ27 => (z27, ψ27))) else (if (φ 1 7) = 21 then (bnd (F_Sentence_readCompared_52_1 ψ7 (φ 1 7)) (fun z29 ψ29 => (z29, ψ29))) else (if (φ 1 7) = 22 then (bnd (F_Sentence_readCompared_52_1 ψ7 (φ 1 7)) (fun z31 ψ31 => (z31, ψ31))) else (bnd (F_Sentence_add_52 ψ7 (φ 1 7) 0 0) (fun z33 ψ33 => (z33, ψ33)))))))))))) else (bnd (fc ψ7) (fun z35 ψ35 => (if z35 = 0 then (0, ψ35) else (bnd (F_Reader_takeSign_1 ψ35 41) (fun z38 ψ38 => (if z38 = 0 then (0, ψ38) else (1, ψ38))))))))))) else (bnp (F_Sentence_beginsOne_1 φ) (fun z42 => (if ¬ z42 = 0 then (if 20 ≤ (φ 52 4) then (bnd (F_Reader_refuse_1 φ 4) (fun z45 ψ45 => (z45, ψ45))) else (bnv (F_Reader_advance_1 (hf_up φ 52 4 ((φ 52 4) + 1))) (fun ψ48 => (if z1 = 0 then (if (φ 1 7) = 14 then (bnd (fo ψ48) (fun z51 ψ51 => (if z51 = 0 then (0, ψ51) else (bnd (F_Sentence_add_52 ψ51 (φ 1 7) 0 0) (fun z54 ψ54 => (if z54 = 0 then (0, ψ54) else (1, ψ54))))))) else (if (φ 1 7) = 15 then (bnd (F_Sentence_add_52 ψ48 (φ 1 7) 0 0) (fun z58 ψ58 => (z58, ψ58))) else (if (φ 1 7) = 16 then (bnd (F_Sentence_add_52 ψ48 (φ 1 7) 0 0) (fun z60 ψ60 => (z60, ψ60))) else (if (φ 1 7) = 17 then (bnd (F_Sentence_add_52 ψ48 (φ 1 7) 0 0) (fun z62 ψ62 => (z62, ψ62))) else (if (φ 1 7) = 18 then (bnd (F_Sentence_readNamed_52_1_5_k4_1 ψ48 (φ 1 7)) (fun z64 ψ64 => (z64, ψ64))) else (if (φ 1 7) = 19 then (bnd (F_Sentence_readNamed_52_1_5_k4_2 ψ48 (φ 1 7)) (fun z66 ψ66 => (z66, ψ66))) else (if (φ 1 7) = 20 then (bnd (F_Sentence_readCompared_52_1 ψ48 (φ 1 7)) (fun z68 ψ68 => (z68, ψ68))) else (if (φ 1 7) = 21 then (bnd (F_Sentence_readCompared_52_1 ψ48 (φ 1 7)) (fun z70 ψ70 => (z70, ψ70))) else (if (φ 1 7) = 22 then (bnd (F_Sentence_readCompared_52_1 ψ48 (φ 1 7)) (fun z72 ψ72 => (z72, ψ72))) else (bnd (F_Sentence_add_52 ψ48 (φ 1 7) 0 0) (fun z74 ψ74 => (z74, ψ74)))))))))))) else (bnd (fc ψ48) (fun z76 ψ76 => (if z76 = 0 then (0, ψ76) else (bnd (F_Reader_takeSign_1 ψ76 41) (fun z79 ψ79 => (if z79 = 0 then (0, ψ79) else (1, ψ79))))))))))) else (bnd (F_Reader_refuse_1 φ 1) (fun z83 ψ83 => (z83, ψ83)))))))))
noncomputable def FG_146_l (fo : hf_F → Int × hf_F) (n : Nat) : hf_F → Int → Int → Int × hf_F := itr (α := hf_F → Int → Int → Int × hf_F) (fun φ l4 l5 => (0, φ)) (fun F φ l4 l5 => (if 20 ≤ l5 then (if l4 = 0 then (1, φ) else (bnd (F_Sentence_add_52 φ 12 0 0) (fun z4 ψ4 => (if z4 = 0 then (0, ψ4) else (1, ψ4))))) else (bnp (F_Reader_isKeyword_1 φ 13) (fun z8 => (if ¬ z8 = 0 then (bnp (F_Reader_isKeyword_1 φ 13) (fun z10 => (if ¬ z10 = 0 then (if ¬ l4 = 0 then (bnv (F_Reader_advance_1 φ) (fun ψ13 => (bnd (fo ψ13) (fun z14 ψ14 => (if ¬ z14 = 0 then (if z10 = 0 then F ψ14 1 (l5 + 1) else (bnd (F_Sentence_add_52 ψ14 13 0 0) (fun z17 ψ17 => F ψ17 1 (l5 + 1)))) else (0, ψ14)))))) else (if ¬ z10 = 0 then (bnv (F_Reader_advance_1 φ) (fun ψ20 => (bnd (fo ψ20) (fun z21 ψ21 => (if ¬ z21 = 0 then (if z10 = 0 then F ψ21 0 (l5 + 1) else (bnd (F_Sentence_add_52 ψ21 13 0 0) (fun z24 ψ24 => F ψ24 0 (l5 + 1)))) else (0, ψ21)))))) else (bnv (F_Reader_advance_1 φ) (fun ψ26 => (bnd (fo ψ26) (fun z27 ψ27 => (if ¬ z27 = 0 then (if z10 = 0 then F ψ27 1 (l5 + 1) else (bnd (F_Sentence_add_52 ψ27 13 0 0) (fun z30 ψ30 => F ψ30 1 (l5 + 1)))) else (0, ψ27)))))))) else (if l4 = 0 then (if ¬ l4 = 0 then (bnv (F_Reader_advance_1 φ) (fun ψ34 => (bnd (fo ψ34) (fun z35 ψ35 => (if ¬ z35 = 0 then (if z10 = 0 then F ψ35 1 (l5 + 1) else (bnd (F_Sentence_add_52 ψ35 13 0 0) (fun z38 ψ38 => F ψ38 1 (l5 + 1)))) else (0, ψ35)))))) else (if ¬ z10 = 0 then (bnv (F_Reader_advance_1 φ) (fun ψ41 => (bnd (fo ψ41) (fun z42 ψ42 => (if ¬ z42 = 0 then (if z10 = 0 then F ψ42 0 (l5 + 1) else (bnd (F_Sentence_add_52 ψ42 13 0 0) (fun z45 ψ45 => F ψ45 0 (l5 + 1)))) else (0, ψ42)))))) else (bnv (F_Reader_advance_1 φ) (fun ψ47 => (bnd (fo ψ47) (fun z48 ψ48 => (if ¬ z48 = 0 then (if z10 = 0 then F ψ48 1 (l5 + 1) else (bnd (F_Sentence_add_52 ψ48 13 0 0) (fun z51 ψ51 => F ψ51 1 (l5 + 1)))) else (0, ψ48)))))))) else (bnd (F_Sentence_add_52 φ 12 0 0) (fun z53 ψ53 => (if ¬ l4 = 0 then (bnv (F_Reader_advance_1 ψ53) (fun ψ55 => (bnd (fo ψ55) (fun z56 ψ56 => (if ¬ z56 = 0 then (if z10 = 0 then F ψ56 1 (l5 + 1) else (bnd (F_Sentence_add_52 ψ56 13 0 0) (fun z59 ψ59 => F ψ59 1 (l5 + 1)))) else (0, ψ56)))))) else (if ¬ z10 = 0 then (bnv (F_Reader_advance_1 ψ53) (fun ψ62 => (bnd (fo ψ62) (fun z63 ψ63 => (if ¬ z63 = 0 then (if z10 = 0 then F ψ63 0 (l5 + 1) else (bnd (F_Sentence_add_52 ψ63 13 0 0) (fun z66 ψ66 => F ψ66 0 (l5 + 1)))) else (0, ψ63)))))) else (bnv (F_Reader_advance_1 ψ53) (fun ψ68 => (bnd (fo ψ68) (fun z69 ψ69 => (if ¬ z69 = 0 then (if z10 = 0 then F ψ69 1 (l5 + 1) else (bnd (F_Sentence_add_52 ψ69 13 0 0) (fun z72 ψ72 => F ψ72 1 (l5 + 1)))) else (0, ψ69)))))))))))))) else (bnp (F_Reader_isKeyword_1 φ 12) (fun z74 => (if z74 = 0 then (if l4 = 0 then (1, φ) else (bnd (F_Sentence_add_52 φ 12 0 0) (fun z78 ψ78 => (if z78 = 0 then (0, ψ78) else (1, ψ78))))) else (bnp (F_Reader_isKeyword_1 φ 13) (fun z82 => (if ¬ z82 = 0 then (if ¬ l4 = 0 then (bnv (F_Reader_advance_1 φ) (fun ψ85 => (bnd (fo ψ85) (fun z86 ψ86 => (if ¬ z86 = 0 then (if z82 = 0 then F ψ86 1 (l5 + 1) else (bnd (F_Sentence_add_52 ψ86 13 0 0) (fun z89 ψ89 => F ψ89 1 (l5 + 1)))) else (0, ψ86)))))) else (if ¬ z82 = 0 then (bnv (F_Reader_advance_1 φ) (fun ψ92 => (bnd (fo ψ92) (fun z93 ψ93 => (if ¬ z93 = 0 then (if z82 = 0 then F ψ93 0 (l5 + 1) else (bnd (F_Sentence_add_52 ψ93 13 0 0) (fun z96 ψ96 => F ψ96 0 (l5 + 1)))) else (0, ψ93)))))) else (bnv (F_Reader_advance_1 φ) (fun ψ98 => (bnd (fo ψ98) (fun z99 ψ99 => (if ¬ z99 = 0 then (if z82 = 0 then F ψ99 1 (l5 + 1) else (bnd (F_Sentence_add_52 ψ99 13 0 0) (fun z102 ψ102 => F ψ102 1 (l5 + 1)))) else (0, ψ99)))))))) else (if l4 = 0 then (if ¬ l4 = 0 then (bnv (F_Reader_advance_1 φ) (fun ψ106 => (bnd (fo ψ106) (fun z107 ψ107 => (if ¬ z107 = 0 then (if z82 = 0 then F ψ107 1 (l5 + 1) else (bnd (F_Sentence_add_52 ψ107 13 0 0) (fun z110 ψ110 => F ψ110 1 (l5 + 1)))) else (0, ψ107)))))) else (if ¬ z82 = 0 then (bnv (F_Reader_advance_1 φ) (fun ψ113 => (bnd (fo ψ113) (fun z114 ψ114 => (if ¬ z114 = 0 then (if z82 = 0 then F ψ114 0 (l5 + 1) else (bnd (F_Sentence_add_52 ψ114 13 0 0) (fun z117 ψ117 => F ψ117 0 (l5 + 1)))) else (0, ψ114)))))) else (bnv (F_Reader_advance_1 φ) (fun ψ119 => (bnd (fo ψ119) (fun z120 ψ120 => (if ¬ z120 = 0 then (if z82 = 0 then F ψ120 1 (l5 + 1) else (bnd (F_Sentence_add_52 ψ120 13 0 0) (fun z123 ψ123 => F ψ123 1 (l5 + 1)))) else (0, ψ120)))))))) else (bnd (F_Sentence_add_52 φ 12 0 0) (fun z125 ψ125 => (if ¬ l4 = 0 then (bnv (F_Reader_advance_1 ψ125) (fun ψ127 => (bnd (fo ψ127) (fun z128 ψ128 => (if ¬ z128 = 0 then (if z82 = 0 then F ψ128 1 (l5 + 1) else (bnd (F_Sentence_add_52 ψ128 13 0 0) (fun z131 ψ131 => F ψ131 1 (l5 + 1)))) else (0, ψ128)))))) else (if ¬ z82 = 0 then (bnv (F_Reader_advance_1 ψ125) (fun ψ134 => (bnd (fo ψ134) (fun z135 ψ135 => (if ¬ z135 = 0 then (if z82 = 0 then F ψ135 0 (l5 + 1) else (bnd (F_Sentence_add_52 ψ135 13 0 0) (fun z138 ψ138 => F ψ138 0 (l5 + 1)))) else (0, ψ135)))))) else (bnv (F_Reader_advance_1 ψ125) (fun ψ140 => (bnd (fo ψ140) (fun z141 ψ141 => (if ¬ z141 = 0 then (if z82 = 0 then F ψ141 1 (l5 + 1) else (bnd (F_Sentence_add_52 ψ141 13 0 0) (fun z144 ψ144 => F ψ144 1 (l5 + 1)))) else (0, ψ141)))))))))))))))))))))) n
theorem FG_146_l_s {fo : hf_F → Int × hf_F} {φ : hf_F} {l4 l5 : Int} (n : Nat) : FG_146_l fo (n + 1) φ l4 l5 = (if 20 ≤ l5 then (if l4 = 0 then (1, φ) else (bnd (F_Sentence_add_52 φ 12 0 0) (fun z4 ψ4 => (if z4 = 0 then (0, ψ4) else (1, ψ4))))) else (bnp (F_Reader_isKeyword_1 φ 13) (fun z8 => (if ¬ z8 = 0 then (bnp (F_Reader_isKeyword_1 φ 13) (fun z10 => (if ¬ z10 = 0 then (if ¬ l4 = 0 then (bnv (F_Reader_advance_1 φ) (fun ψ13 => (bnd (fo ψ13) (fun z14 ψ14 => (if ¬ z14 = 0 then (if z10 = 0 then (FG_146_l fo n) ψ14 1 (l5 + 1) else (bnd (F_Sentence_add_52 ψ14 13 0 0) (fun z17 ψ17 => (FG_146_l fo n) ψ17 1 (l5 + 1)))) else (0, ψ14)))))) else (if ¬ z10 = 0 then (bnv (F_Reader_advance_1 φ) (fun ψ20 => (bnd (fo ψ20) (fun z21 ψ21 => (if ¬ z21 = 0 then (if z10 = 0 then (FG_146_l fo n) ψ21 0 (l5 + 1) else (bnd (F_Sentence_add_52 ψ21 13 0 0) (fun z24 ψ24 => (FG_146_l fo n) ψ24 0 (l5 + 1)))) else (0, ψ21)))))) else (bnv (F_Reader_advance_1 φ) (fun ψ26 => (bnd (fo ψ26) (fun z27 ψ27 => (if ¬ z27 = 0 then (if z10 = 0 then (FG_146_l fo n) ψ27 1 (l5 + 1) else (bnd (F_Sentence_add_52 ψ27 13 0 0) (fun z30 ψ30 => (FG_146_l fo n) ψ30 1 (l5 + 1)))) else (0, ψ27)))))))) else (if l4 = 0 then (if ¬ l4 = 0 then (bnv (F_Reader_advance_1 φ) (fun ψ34 => (bnd (fo ψ34) (fun z35 ψ35 => (if ¬ z35 = 0 then (if z10 = 0 then (FG_146_l fo n) ψ35 1 (l5 + 1) else (bnd (F_Sentence_add_52 ψ35 13 0 0) (fun z38 ψ38 => (FG_146_l fo n) ψ38 1 (l5 + 1)))) else (0, ψ35)))))) else (if ¬ z10 = 0 then (bnv (F_Reader_advance_1 φ) (fun ψ41 => (bnd (fo ψ41) (fun z42 ψ42 => (if ¬ z42 = 0 then (if z10 = 0 then (FG_146_l fo n) ψ42 0 (l5 + 1) else (bnd (F_Sentence_add_52 ψ42 13 0 0) (fun z45 ψ45 => (FG_146_l fo n) ψ45 0 (l5 + 1)))) else (0, ψ42)))))) else (bnv (F_Reader_advance_1 φ) (fun ψ47 => (bnd (fo ψ47) (fun z48 ψ48 => (if ¬ z48 = 0 then (if z10 = 0 then (FG_146_l fo n) ψ48 1 (l5 + 1) else (bnd (F_Sentence_add_52 ψ48 13 0 0) (fun z51 ψ51 => (FG_146_l fo n) ψ51 1 (l5 + 1)))) else (0, ψ48)))))))) else (bnd (F_Sentence_add_52 φ 12 0 0) (fun z53 ψ53 => (if ¬ l4 = 0 then (bnv (F_Reader_advance_1 ψ53) (fun ψ55 => (bnd (fo ψ55) (fun z56 ψ56 => (if ¬ z56 = 0 then (if z10 = 0 then (FG_146_l fo n) ψ56 1 (l5 + 1) else (bnd (F_Sentence_add_52 ψ56 13 0 0) (fun z59 ψ59 => (FG_146_l fo n) ψ59 1 (l5 + 1)))) else (0, ψ56)))))) else (if ¬ z10 = 0 then (bnv (F_Reader_advance_1 ψ53) (fun ψ62 => (bnd (fo ψ62) (fun z63 ψ63 => (if ¬ z63 = 0 then (if z10 = 0 then (FG_146_l fo n) ψ63 0 (l5 + 1) else (bnd (F_Sentence_add_52 ψ63 13 0 0) (fun z66 ψ66 => (FG_146_l fo n) ψ66 0 (l5 + 1)))) else (0, ψ63)))))) else (bnv (F_Reader_advance_1 ψ53) (fun ψ68 => (bnd (fo ψ68) (fun z69 ψ69 => (if ¬ z69 = 0 then (if z10 = 0 then (FG_146_l fo n) ψ69 1 (l5 + 1) else (bnd (F_Sentence_add_52 ψ69 13 0 0) (fun z72 ψ72 => (FG_146_l fo n) ψ72 1 (l5 + 1)))) else (0, ψ69)))))))))))))) else (bnp (F_Reader_isKeyword_1 φ 12) (fun z74 => (if z74 = 0 then (if l4 = 0 then (1, φ) else (bnd (F_Sentence_add_52 φ 12 0 0) (fun z78 ψ78 => (if z78 = 0 then (0, ψ78) else (1, ψ78))))) else (bnp (F_Reader_isKeyword_1 φ 13) (fun z82 => (if ¬ z82 = 0 then (if ¬ l4 = 0 then (bnv (F_Reader_advance_1 φ) (fun ψ85 => (bnd (fo ψ85) (fun z86 ψ86 => (if ¬ z86 = 0 then (if z82 = 0 then (FG_146_l fo n) ψ86 1 (l5 + 1) else (bnd (F_Sentence_add_52 ψ86 13 0 0) (fun z89 ψ89 => (FG_146_l fo n) ψ89 1 (l5 + 1)))) else (0, ψ86)))))) else (if ¬ z82 = 0 then (bnv (F_Reader_advance_1 φ) (fun ψ92 => (bnd (fo ψ92) (fun z93 ψ93 => (if ¬ z93 = 0 then (if z82 = 0 then (FG_146_l fo n) ψ93 0 (l5 + 1) else (bnd (F_Sentence_add_52 ψ93 13 0 0) (fun z96 ψ96 => (FG_146_l fo n) ψ96 0 (l5 + 1)))) else (0, ψ93)))))) else (bnv (F_Reader_advance_1 φ) (fun ψ98 => (bnd (fo ψ98) (fun z99 ψ99 => (if ¬ z99 = 0 then (if z82 = 0 then (FG_146_l fo n) ψ99 1 (l5 + 1) else (bnd (F_Sentence_add_52 ψ99 13 0 0) (fun z102 ψ102 => (FG_146_l fo n) ψ102 1 (l5 + 1)))) else (0, ψ99)))))))) else (if l4 = 0 then (if ¬ l4 = 0 then (bnv (F_Reader_advance_1 φ) (fun ψ106 => (bnd (fo ψ106) (fun z107 ψ107 => (if ¬ z107 = 0 then (if z82 = 0 then (FG_146_l fo n) ψ107 1 (l5 + 1) else (bnd (F_Sentence_add_52 ψ107 13 0 0) (fun z110 ψ110 => (FG_146_l fo n) ψ110 1 (l5 + 1)))) else (0, ψ107)))))) else (if ¬ z82 = 0 then (bnv (F_Reader_advance_1 φ) (fun ψ113 => (bnd (fo ψ113) (fun z114 ψ114 => (if ¬ z114 = 0 then (if z82 = 0 then (FG_146_l fo n) ψ114 0 (l5 + 1) else (bnd (F_Sentence_add_52 ψ114 13 0 0) (fun z117 ψ117 => (FG_146_l fo n) ψ117 0 (l5 + 1)))) else (0, ψ114)))))) else (bnv (F_Reader_advance_1 φ) (fun ψ119 => (bnd (fo ψ119) (fun z120 ψ120 => (if ¬ z120 = 0 then (if z82 = 0 then (FG_146_l fo n) ψ120 1 (l5 + 1) else (bnd (F_Sentence_add_52 ψ120 13 0 0) (fun z123 ψ123 => (FG_146_l fo n) ψ123 1 (l5 + 1)))) else (0, ψ120)))))))) else (bnd (F_Sentence_add_52 φ 12 0 0) (fun z125 ψ125 => (if ¬ l4 = 0 then (bnv (F_Reader_advance_1 ψ125) (fun ψ127 => (bnd (fo ψ127) (fun z128 ψ128 => (if ¬ z128 = 0 then (if z82 = 0 then (FG_146_l fo n) ψ128 1 (l5 + 1) else (bnd (F_Sentence_add_52 ψ128 13 0 0) (fun z131 ψ131 => (FG_146_l fo n) ψ131 1 (l5 + 1)))) else (0, ψ128)))))) else (if ¬ z82 = 0 then (bnv (F_Reader_advance_1 ψ125) (fun ψ134 => (bnd (fo ψ134) (fun z135 ψ135 => (if ¬ z135 = 0 then (if z82 = 0 then (FG_146_l fo n) ψ135 0 (l5 + 1) else (bnd (F_Sentence_add_52 ψ135 13 0 0) (fun z138 ψ138 => (FG_146_l fo n) ψ138 0 (l5 + 1)))) else (0, ψ135)))))) else (bnv (F_Reader_advance_1 ψ125) (fun ψ140 => (bnd (fo ψ140) (fun z141 ψ141 => (if ¬ z141 = 0 then (if z82 = 0 then (FG_146_l fo n) ψ141 1 (l5 + 1) else (bnd (F_Sentence_add_52 ψ141 13 0 0) (fun z144 ψ144 => (FG_146_l fo n) ψ144 1 (l5 + 1)))) else (0, ψ141))))))))))))))))))))) := rfl
noncomputable def FG_146 (fo : hf_F → Int × hf_F) (φ : hf_F) : Int × hf_F := (bnd (fo φ) (fun z1 ψ1 => (if ¬ z1 = 0 then FG_146_l fo ((20 - 0 : Int).toNat + 1) ψ1 0 0 else (0, ψ1))))
theorem sfg_146_v18 {sc : List Int} {d : Nat} {D : Int} (hD1 : 1 ≤ D) (hD2 : D ≤ 9) {φ : hf_F} {x : Nat} {Q : Option jm_V → hf_F → Nat → Prop} {L : jm_L} {l4 l5 : Int} (g0 : jm_get L 0 = some (2, 52)) (g1 : jm_get L 1 = some (2, 1)) (g2 : jm_get L 2 = some (2, 5)) (g3 : jm_get L 3 = some (0, D)) (g4 : jm_get L 4 = some (0, l4)) (g5 : jm_get L 5 = some (0, l5))
    (H : hi l5 ∧ hi 20 ∧ (20 ≤ l5 → hi l4 ∧ (l4 = 0 → Q (some (0, 1)) φ x) ∧ (¬ l4 = 0 → hw sc (d + 4) 149 0 [(0, (2, 52)), (1, (0, 12)), (2, (0, 0)), (3, (0, 0))] [] φ x (fun r ψ4 y4 => y4 = x ∧ (∃ z4 : Int, r = some (0, z4) ∧ (hi z4 ∧ (z4 = 0 → Q (some (0, 0)) ψ4 x) ∧ (¬ z4 = 0 → Q (some (0, 1)) ψ4 x)))))) ∧ (¬ 20 ≤ l5 → hw sc (d + 4) 135 0 [(0, (2, 1)), (1, (0, 13))] [] φ x (fun r ψ8 y8 => y8 = x ∧ φ = ψ8 ∧ (∃ z8 : Int, r = some (0, z8) ∧ (hi z8 ∧ (¬ z8 = 0 → hw sc (d + 4) 135 0 [(0, (2, 1)), (1, (0, 13))] [] φ x (fun r ψ10 y10 => y10 = x ∧ φ = ψ10 ∧ (∃ z10 : Int, r = some (0, z10) ∧ (hi z10 ∧ (¬ z10 = 0 → hi l4 ∧ (¬ l4 = 0 → hw sc (d + 4) 29 0 [(0, (2, 1))] [] φ x (fun r ψ13 y13 => y13 = x ∧ (r = none ∧ (hw sc (d + 4) 147 0 [(0, (2, 52)), (1, (2, 1)), (2, (2, 5)), (3, (0, D))] [] ψ13 x (fun r ψ14 y14 => y14 = x ∧ (∃ z14 : Int, r = some (0, z14) ∧ (hi z14 ∧ (¬ z14 = 0 → hi z10 ∧ (z10 = 0 → hw sc (d + 5) 146 18 (jm_st1 (jm_st1 (jm_st1 L 6 (0, z10)) 4 (0, 1)) 5 (0, l5 + 1)) [] ψ14 x Q) ∧ (¬ z10 = 0 → hw sc (d + 4) 149 0 [(0, (2, 52)), (1, (0, 13)), (2, (0, 0)), (3, (0, 0))] [] ψ14 x (fun r ψ17 y17 => y17 = x ∧ (∃ z17 : Int, r = some (0, z17) ∧ (hw sc (d + 5) 146 18 (jm_st1 (jm_st1 (jm_st1 L 6 (0, z10)) 4 (0, 1)) 5 (0, l5 + 1)) [] ψ17 x Q))))) ∧ (¬ (¬ z14 = 0) → Q (some (0, 0)) ψ14 x)))))))) ∧ (¬ (¬ l4 = 0) → hi z10 ∧ (¬ z10 = 0 → hw sc (d + 4) 29 0 [(0, (2, 1))] [] φ x (fun r ψ20 y20 => y20 = x ∧ (r = none ∧ (hw sc (d + 4) 147 0 [(0, (2, 52)), (1, (2, 1)), (2, (2, 5)), (3, (0, D))] [] ψ20 x (fun r ψ21 y21 => y21 = x ∧ (∃ z21 : Int, r = some (0, z21) ∧ (hi z21 ∧ (¬ z21 = 0 → hi z10 ∧ (z10 = 0 → hw sc (d + 5) 146 18 (jm_st1 (jm_st1 (jm_st1 L 6 (0, z10)) 4 (0, 0)) 5 (0, l5 + 1)) [] ψ21 x Q) ∧ (¬ z10 = 0 → hw sc (d + 4) 149 0 [(0, (2, 52)), (1, (0, 13)), (2, (0, 0)), (3, (0, 0))] [] ψ21 x (fun r ψ24 y24 => y24 = x ∧ (∃ z24 : Int, r = some (0, z24) ∧ (hw sc (d + 5) 146 18 (jm_st1 (jm_st1 (jm_st1 L 6 (0, z10)) 4 (0, 0)) 5 (0, l5 + 1)) [] ψ24 x Q))))) ∧ (¬ (¬ z21 = 0) → Q (some (0, 0)) ψ21 x)))))))) ∧ (¬ (¬ z10 = 0) → hw sc (d + 4) 29 0 [(0, (2, 1))] [] φ x (fun r ψ26 y26 => y26 = x ∧ (r = none ∧ (hw sc (d + 4) 147 0 [(0, (2, 52)), (1, (2, 1)), (2, (2, 5)), (3, (0, D))] [] ψ26 x (fun r ψ27 y27 => y27 = x ∧ (∃ z27 : Int, r = some (0, z27) ∧ (hi z27 ∧ (¬ z27 = 0 → hi z10 ∧ (z10 = 0 → hw sc (d + 5) 146 18 (jm_st1 (jm_st1 (jm_st1 L 6 (0, z10)) 4 (0, 1)) 5 (0, l5 + 1)) [] ψ27 x Q) ∧ (¬ z10 = 0 → hw sc (d + 4) 149 0 [(0, (2, 52)), (1, (0, 13)), (2, (0, 0)), (3, (0, 0))] [] ψ27 x (fun r ψ30 y30 => y30 = x ∧ (∃ z30 : Int, r = some (0, z30) ∧ (hw sc (d + 5) 146 18 (jm_st1 (jm_st1 (jm_st1 L 6 (0, z10)) 4 (0, 1)) 5 (0, l5 + 1)) [] ψ30 x Q))))) ∧ (¬ (¬ z27 = 0) → Q (some (0, 0)) ψ27 x)))))))))) ∧ (¬ (¬ z10 = 0) → hi l4 ∧ (l4 = 0 → hi l4 ∧ (¬ l4 = 0 → hw sc (d + 4) 29 0 [(0, (2, 1))] [] φ x (fun r ψ34 y34 => y34 = x ∧ (r = none ∧ (hw sc (d + 4) 147 0 [(0, (2, 52)), (1, (2, 1)), (2, (2, 5)), (3, (0, D))] [] ψ34 x (fun r ψ35 y35 => y35 = x ∧ (∃ z35 : Int, r = some (0, z35) ∧ (hi z35 ∧ (¬ z35 = 0 → hi z10 ∧ (z10 = 0 → hw sc (d + 5) 146 18 (jm_st1 (jm_st1 (jm_st1 L 6 (0, z10)) 4 (0, 1)) 5 (0, l5 + 1)) [] ψ35 x Q) ∧ (¬ z10 = 0 → hw sc (d + 4) 149 0 [(0, (2, 52)), (1, (0, 13)), (2, (0, 0)), (3, (0, 0))] [] ψ35 x (fun r ψ38 y38 => y38 = x ∧ (∃ z38 : Int, r = some (0, z38) ∧ (hw sc (d + 5) 146 18 (jm_st1 (jm_st1 (jm_st1 L 6 (0, z10)) 4 (0, 1)) 5 (0, l5 + 1)) [] ψ38 x Q))))) ∧ (¬ (¬ z35 = 0) → Q (some (0, 0)) ψ35 x)))))))) ∧ (¬ (¬ l4 = 0) → hi z10 ∧ (¬ z10 = 0 → hw sc (d + 4) 29 0 [(0, (2, 1))] [] φ x (fun r ψ41 y41 => y41 = x ∧ (r = none ∧ (hw sc (d + 4) 147 0 [(0, (2, 52)), (1, (2, 1)), (2, (2, 5)), (3, (0, D))] [] ψ41 x (fun r ψ42 y42 => y42 = x ∧ (∃ z42 : Int, r = some (0, z42) ∧ (hi z42 ∧ (¬ z42 = 0 → hi z10 ∧ (z10 = 0 → hw sc (d + 5) 146 18 (jm_st1 (jm_st1 (jm_st1 L 6 (0, z10)) 4 (0, 0)) 5 (0, l5 + 1)) [] ψ42 x Q) ∧ (¬ z10 = 0 → hw sc (d + 4) 149 0 [(0, (2, 52)), (1, (0, 13)), (2, (0, 0)), (3, (0, 0))] [] ψ42 x (fun r ψ45 y45 => y45 = x ∧ (∃ z45 : Int, r = some (0, z45) ∧ (hw sc (d + 5) 146 18 (jm_st1 (jm_st1 (jm_st1 L 6 (0, z10)) 4 (0, 0)) 5 (0, l5 + 1)) [] ψ45 x Q))))) ∧ (¬ (¬ z42 = 0) → Q (some (0, 0)) ψ42 x)))))))) ∧ (¬ (¬ z10 = 0) → hw sc (d + 4) 29 0 [(0, (2, 1))] [] φ x (fun r ψ47 y47 => y47 = x ∧ (r = none ∧ (hw sc (d + 4) 147 0 [(0, (2, 52)), (1, (2, 1)), (2, (2, 5)), (3, (0, D))] [] ψ47 x (fun r ψ48 y48 => y48 = x ∧ (∃ z48 : Int, r = some (0, z48) ∧ (hi z48 ∧ (¬ z48 = 0 → hi z10 ∧ (z10 = 0 → hw sc (d + 5) 146 18 (jm_st1 (jm_st1 (jm_st1 L 6 (0, z10)) 4 (0, 1)) 5 (0, l5 + 1)) [] ψ48 x Q) ∧ (¬ z10 = 0 → hw sc (d + 4) 149 0 [(0, (2, 52)), (1, (0, 13)), (2, (0, 0)), (3, (0, 0))] [] ψ48 x (fun r ψ51 y51 => y51 = x ∧ (∃ z51 : Int, r = some (0, z51) ∧ (hw sc (d + 5) 146 18 (jm_st1 (jm_st1 (jm_st1 L 6 (0, z10)) 4 (0, 1)) 5 (0, l5 + 1)) [] ψ51 x Q))))) ∧ (¬ (¬ z48 = 0) → Q (some (0, 0)) ψ48 x)))))))))) ∧ (¬ l4 = 0 → hw sc (d + 4) 149 0 [(0, (2, 52)), (1, (0, 12)), (2, (0, 0)), (3, (0, 0))] [] φ x (fun r ψ53 y53 => y53 = x ∧ (∃ z53 : Int, r = some (0, z53) ∧ (hi l4 ∧ (¬ l4 = 0 → hw sc (d + 4) 29 0 [(0, (2, 1))] [] ψ53 x (fun r ψ55 y55 => y55 = x ∧ (r = none ∧ (hw sc (d + 4) 147 0 [(0, (2, 52)), (1, (2, 1)), (2, (2, 5)), (3, (0, D))] [] ψ55 x (fun r ψ56 y56 => y56 = x ∧ (∃ z56 : Int, r = some (0, z56) ∧ (hi z56 ∧ (¬ z56 = 0 → hi z10 ∧ (z10 = 0 → hw sc (d + 5) 146 18 (jm_st1 (jm_st1 (jm_st1 L 6 (0, z10)) 4 (0, 1)) 5 (0, l5 + 1)) [] ψ56 x Q) ∧ (¬ z10 = 0 → hw sc (d + 4) 149 0 [(0, (2, 52)), (1, (0, 13)), (2, (0, 0)), (3, (0, 0))] [] ψ56 x (fun r ψ59 y59 => y59 = x ∧ (∃ z59 : Int, r = some (0, z59) ∧ (hw sc (d + 5) 146 18 (jm_st1 (jm_st1 (jm_st1 L 6 (0, z10)) 4 (0, 1)) 5 (0, l5 + 1)) [] ψ59 x Q))))) ∧ (¬ (¬ z56 = 0) → Q (some (0, 0)) ψ56 x)))))))) ∧ (¬ (¬ l4 = 0) → hi z10 ∧ (¬ z10 = 0 → hw sc (d + 4) 29 0 [(0, (2, 1))] [] ψ53 x (fun r ψ62 y62 => y62 = x ∧ (r = none ∧ (hw sc (d + 4) 147 0 [(0, (2, 52)), (1, (2, 1)), (2, (2, 5)), (3, (0, D))] [] ψ62 x (fun r ψ63 y63 => y63 = x ∧ (∃ z63 : Int, r = some (0, z63) ∧ (hi z63 ∧ (¬ z63 = 0 → hi z10 ∧ (z10 = 0 → hw sc (d + 5) 146 18 (jm_st1 (jm_st1 (jm_st1 L 6 (0, z10)) 4 (0, 0)) 5 (0, l5 + 1)) [] ψ63 x Q) ∧ (¬ z10 = 0 → hw sc (d + 4) 149 0 [(0, (2, 52)), (1, (0, 13)), (2, (0, 0)), (3, (0, 0))] [] ψ63 x (fun r ψ66 y66 => y66 = x ∧ (∃ z66 : Int, r = some (0, z66) ∧ (hw sc (d + 5) 146 18 (jm_st1 (jm_st1 (jm_st1 L 6 (0, z10)) 4 (0, 0)) 5 (0, l5 + 1)) [] ψ66 x Q))))) ∧ (¬ (¬ z63 = 0) → Q (some (0, 0)) ψ63 x)))))))) ∧ (¬ (¬ z10 = 0) → hw sc (d + 4) 29 0 [(0, (2, 1))] [] ψ53 x (fun r ψ68 y68 => y68 = x ∧ (r = none ∧ (hw sc (d + 4) 147 0 [(0, (2, 52)), (1, (2, 1)), (2, (2, 5)), (3, (0, D))] [] ψ68 x (fun r ψ69 y69 => y69 = x ∧ (∃ z69 : Int, r = some (0, z69) ∧ (hi z69 ∧ (¬ z69 = 0 → hi z10 ∧ (z10 = 0 → hw sc (d + 5) 146 18 (jm_st1 (jm_st1 (jm_st1 L 6 (0, z10)) 4 (0, 1)) 5 (0, l5 + 1)) [] ψ69 x Q) ∧ (¬ z10 = 0 → hw sc (d + 4) 149 0 [(0, (2, 52)), (1, (0, 13)), (2, (0, 0)), (3, (0, 0))] [] ψ69 x (fun r ψ72 y72 => y72 = x ∧ (∃ z72 : Int, r = some (0, z72) ∧ (hw sc (d + 5) 146 18 (jm_st1 (jm_st1 (jm_st1 L 6 (0, z10)) 4 (0, 1)) 5 (0, l5 + 1)) [] ψ72 x Q))))) ∧ (¬ (¬ z69 = 0) → Q (some (0, 0)) ψ69 x)))))))))))))))))) ∧ (¬ (¬ z8 = 0) → hw sc (d + 4) 135 0 [(0, (2, 1)), (1, (0, 12))] [] φ x (fun r ψ74 y74 => y74 = x ∧ φ = ψ74 ∧ (∃ z74 : Int, r = some (0, z74) ∧ (hi z74 ∧ (z74 = 0 → hi l4 ∧ (l4 = 0 → Q (some (0, 1)) φ x) ∧ (¬ l4 = 0 → hw sc (d + 4) 149 0 [(0, (2, 52)), (1, (0, 12)), (2, (0, 0)), (3, (0, 0))] [] φ x (fun r ψ78 y78 => y78 = x ∧ (∃ z78 : Int, r = some (0, z78) ∧ (hi z78 ∧ (z78 = 0 → Q (some (0, 0)) ψ78 x) ∧ (¬ z78 = 0 → Q (some (0, 1)) ψ78 x)))))) ∧ (¬ z74 = 0 → hw sc (d + 4) 135 0 [(0, (2, 1)), (1, (0, 13))] [] φ x (fun r ψ82 y82 => y82 = x ∧ φ = ψ82 ∧ (∃ z82 : Int, r = some (0, z82) ∧ (hi z82 ∧ (¬ z82 = 0 → hi l4 ∧ (¬ l4 = 0 → hw sc (d + 4) 29 0 [(0, (2, 1))] [] φ x (fun r ψ85 y85 => y85 = x ∧ (r = none ∧ (hw sc (d + 4) 147 0 [(0, (2, 52)), (1, (2, 1)), (2, (2, 5)), (3, (0, D))] [] ψ85 x (fun r ψ86 y86 => y86 = x ∧ (∃ z86 : Int, r = some (0, z86) ∧ (hi z86 ∧ (¬ z86 = 0 → hi z82 ∧ (z82 = 0 → hw sc (d + 5) 146 18 (jm_st1 (jm_st1 (jm_st1 L 6 (0, z82)) 4 (0, 1)) 5 (0, l5 + 1)) [] ψ86 x Q) ∧ (¬ z82 = 0 → hw sc (d + 4) 149 0 [(0, (2, 52)), (1, (0, 13)), (2, (0, 0)), (3, (0, 0))] [] ψ86 x (fun r ψ89 y89 => y89 = x ∧ (∃ z89 : Int, r = some (0, z89) ∧ (hw sc (d + 5) 146 18 (jm_st1 (jm_st1 (jm_st1 L 6 (0, z82)) 4 (0, 1)) 5 (0, l5 + 1)) [] ψ89 x Q))))) ∧ (¬ (¬ z86 = 0) → Q (some (0, 0)) ψ86 x)))))))) ∧ (¬ (¬ l4 = 0) → hi z82 ∧ (¬ z82 = 0 → hw sc (d + 4) 29 0 [(0, (2, 1))] [] φ x (fun r ψ92 y92 => y92 = x ∧ (r = none ∧ (hw sc (d + 4) 147 0 [(0, (2, 52)), (1, (2, 1)), (2, (2, 5)), (3, (0, D))] [] ψ92 x (fun r ψ93 y93 => y93 = x ∧ (∃ z93 : Int, r = some (0, z93) ∧ (hi z93 ∧ (¬ z93 = 0 → hi z82 ∧ (z82 = 0 → hw sc (d + 5) 146 18 (jm_st1 (jm_st1 (jm_st1 L 6 (0, z82)) 4 (0, 0)) 5 (0, l5 + 1)) [] ψ93 x Q) ∧ (¬ z82 = 0 → hw sc (d + 4) 149 0 [(0, (2, 52)), (1, (0, 13)), (2, (0, 0)), (3, (0, 0))] [] ψ93 x (fun r ψ96 y96 => y96 = x ∧ (∃ z96 : Int, r = some (0, z96) ∧ (hw sc (d + 5) 146 18 (jm_st1 (jm_st1 (jm_st1 L 6 (0, z82)) 4 (0, 0)) 5 (0, l5 + 1)) [] ψ96 x Q))))) ∧ (¬ (¬ z93 = 0) → Q (some (0, 0)) ψ93 x)))))))) ∧ (¬ (¬ z82 = 0) → hw sc (d + 4) 29 0 [(0, (2, 1))] [] φ x (fun r ψ98 y98 => y98 = x ∧ (r = none ∧ (hw sc (d + 4) 147 0 [(0, (2, 52)), (1, (2, 1)), (2, (2, 5)), (3, (0, D))] [] ψ98 x (fun r ψ99 y99 => y99 = x ∧ (∃ z99 : Int, r = some (0, z99) ∧ (hi z99 ∧ (¬ z99 = 0 → hi z82 ∧ (z82 = 0 → hw sc (d + 5) 146 18 (jm_st1 (jm_st1 (jm_st1 L 6 (0, z82)) 4 (0, 1)) 5 (0, l5 + 1)) [] ψ99 x Q) ∧ (¬ z82 = 0 → hw sc (d + 4) 149 0 [(0, (2, 52)), (1, (0, 13)), (2, (0, 0)), (3, (0, 0))] [] ψ99 x (fun r ψ102 y102 => y102 = x ∧ (∃ z102 : Int, r = some (0, z102) ∧ (hw sc (d + 5) 146 18 (jm_st1 (jm_st1 (jm_st1 L 6 (0, z82)) 4 (0, 1)) 5 (0, l5 + 1)) [] ψ102 x Q))))) ∧ (¬ (¬ z99 = 0) → Q (some (0, 0)) ψ99 x)))))))))) ∧ (¬ (¬ z82 = 0) → hi l4 ∧ (l4 = 0 → hi l4 ∧ (¬ l4 = 0 → hw sc (d + 4) 29 0 [(0, (2, 1))] [] φ x (fun r ψ106 y106 => y106 = x ∧ (r = none ∧ (hw sc (d + 4) 147 0 [(0, (2, 52)), (1, (2, 1)), (2, (2, 5)), (3, (0, D))] [] ψ106 x (fun r ψ107 y107 => y107 = x ∧ (∃ z107 : Int, r = some (0, z107) ∧ (hi z107 ∧ (¬ z107 = 0 → hi z82 ∧ (z82 = 0 → hw sc (d + 5) 146 18 (jm_st1 (jm_st1 (jm_st1 L 6 (0, z82)) 4 (0, 1)) 5 (0, l5 + 1)) [] ψ107 x Q) ∧ (¬ z82 = 0 → hw sc (d + 4) 149 0 [(0, (2, 52)), (1, (0, 13)), (2, (0, 0)), (3, (0, 0))] [] ψ107 x (fun r ψ110 y110 => y110 = x ∧ (∃ z110 : Int, r = some (0, z110) ∧ (hw sc (d + 5) 146 18 (jm_st1 (jm_st1 (jm_st1 L 6 (0, z82)) 4 (0, 1)) 5 (0, l5 + 1)) [] ψ110 x Q))))) ∧ (¬ (¬ z107 = 0) → Q (some (0, 0)) ψ107 x)))))))) ∧ (¬ (¬ l4 = 0) → hi z82 ∧ (¬ z82 = 0 → hw sc (d + 4) 29 0 [(0, (2, 1))] [] φ x (fun r ψ113 y113 => y113 = x ∧ (r = none ∧ (hw sc (d + 4) 147 0 [(0, (2, 52)), (1, (2, 1)), (2, (2, 5)), (3, (0, D))] [] ψ113 x (fun r ψ114 y114 => y114 = x ∧ (∃ z114 : Int, r = some (0, z114) ∧ (hi z114 ∧ (¬ z114 = 0 → hi z82 ∧ (z82 = 0 → hw sc (d + 5) 146 18 (jm_st1 (jm_st1 (jm_st1 L 6 (0, z82)) 4 (0, 0)) 5 (0, l5 + 1)) [] ψ114 x Q) ∧ (¬ z82 = 0 → hw sc (d + 4) 149 0 [(0, (2, 52)), (1, (0, 13)), (2, (0, 0)), (3, (0, 0))] [] ψ114 x (fun r ψ117 y117 => y117 = x ∧ (∃ z117 : Int, r = some (0, z117) ∧ (hw sc (d + 5) 146 18 (jm_st1 (jm_st1 (jm_st1 L 6 (0, z82)) 4 (0, 0)) 5 (0, l5 + 1)) [] ψ117 x Q))))) ∧ (¬ (¬ z114 = 0) → Q (some (0, 0)) ψ114 x)))))))) ∧ (¬ (¬ z82 = 0) → hw sc (d + 4) 29 0 [(0, (2, 1))] [] φ x (fun r ψ119 y119 => y119 = x ∧ (r = none ∧ (hw sc (d + 4) 147 0 [(0, (2, 52)), (1, (2, 1)), (2, (2, 5)), (3, (0, D))] [] ψ119 x (fun r ψ120 y120 => y120 = x ∧ (∃ z120 : Int, r = some (0, z120) ∧ (hi z120 ∧ (¬ z120 = 0 → hi z82 ∧ (z82 = 0 → hw sc (d + 5) 146 18 (jm_st1 (jm_st1 (jm_st1 L 6 (0, z82)) 4 (0, 1)) 5 (0, l5 + 1)) [] ψ120 x Q) ∧ (¬ z82 = 0 → hw sc (d + 4) 149 0 [(0, (2, 52)), (1, (0, 13)), (2, (0, 0)), (3, (0, 0))] [] ψ120 x (fun r ψ123 y123 => y123 = x ∧ (∃ z123 : Int, r = some (0, z123) ∧ (hw sc (d + 5) 146 18 (jm_st1 (jm_st1 (jm_st1 L 6 (0, z82)) 4 (0, 1)) 5 (0, l5 + 1)) [] ψ123 x Q))))) ∧ (¬ (¬ z120 = 0) → Q (some (0, 0)) ψ120 x)))))))))) ∧ (¬ l4 = 0 → hw sc (d + 4) 149 0 [(0, (2, 52)), (1, (0, 12)), (2, (0, 0)), (3, (0, 0))] [] φ x (fun r ψ125 y125 => y125 = x ∧ (∃ z125 : Int, r = some (0, z125) ∧ (hi l4 ∧ (¬ l4 = 0 → hw sc (d + 4) 29 0 [(0, (2, 1))] [] ψ125 x (fun r ψ127 y127 => y127 = x ∧ (r = none ∧ (hw sc (d + 4) 147 0 [(0, (2, 52)), (1, (2, 1)), (2, (2, 5)), (3, (0, D))] [] ψ127 x (fun r ψ128 y128 => y128 = x ∧ (∃ z128 : Int, r = some (0, z128) ∧ (hi z128 ∧ (¬ z128 = 0 → hi z82 ∧ (z82 = 0 → hw sc (d + 5) 146 18 (jm_st1 (jm_st1 (jm_st1 L 6 (0, z82)) 4 (0, 1)) 5 (0, l5 + 1)) [] ψ128 x Q) ∧ (¬ z82 = 0 → hw sc (d + 4) 149 0 [(0, (2, 52)), (1, (0, 13)), (2, (0, 0)), (3, (0, 0))] [] ψ128 x (fun r ψ131 y131 => y131 = x ∧ (∃ z131 : Int, r = some (0, z131) ∧ (hw sc (d + 5) 146 18 (jm_st1 (jm_st1 (jm_st1 L 6 (0, z82)) 4 (0, 1)) 5 (0, l5 + 1)) [] ψ131 x Q))))) ∧ (¬ (¬ z128 = 0) → Q (some (0, 0)) ψ128 x)))))))) ∧ (¬ (¬ l4 = 0) → hi z82 ∧ (¬ z82 = 0 → hw sc (d + 4) 29 0 [(0, (2, 1))] [] ψ125 x (fun r ψ134 y134 => y134 = x ∧ (r = none ∧ (hw sc (d + 4) 147 0 [(0, (2, 52)), (1, (2, 1)), (2, (2, 5)), (3, (0, D))] [] ψ134 x (fun r ψ135 y135 => y135 = x ∧ (∃ z135 : Int, r = some (0, z135) ∧ (hi z135 ∧ (¬ z135 = 0 → hi z82 ∧ (z82 = 0 → hw sc (d + 5) 146 18 (jm_st1 (jm_st1 (jm_st1 L 6 (0, z82)) 4 (0, 0)) 5 (0, l5 + 1)) [] ψ135 x Q) ∧ (¬ z82 = 0 → hw sc (d + 4) 149 0 [(0, (2, 52)), (1, (0, 13)), (2, (0, 0)), (3, (0, 0))] [] ψ135 x (fun r ψ138 y138 => y138 = x ∧ (∃ z138 : Int, r = some (0, z138) ∧ (hw sc (d + 5) 146 18 (jm_st1 (jm_st1 (jm_st1 L 6 (0, z82)) 4 (0, 0)) 5 (0, l5 + 1)) [] ψ138 x Q))))) ∧ (¬ (¬ z135 = 0) → Q (some (0, 0)) ψ135 x)))))))) ∧ (¬ (¬ z82 = 0) → hw sc (d + 4) 29 0 [(0, (2, 1))] [] ψ125 x (fun r ψ140 y140 => y140 = x ∧ (r = none ∧ (hw sc (d + 4) 147 0 [(0, (2, 52)), (1, (2, 1)), (2, (2, 5)), (3, (0, D))] [] ψ140 x (fun r ψ141 y141 => y141 = x ∧ (∃ z141 : Int, r = some (0, z141) ∧ (hi z141 ∧ (¬ z141 = 0 → hi z82 ∧ (z82 = 0 → hw sc (d + 5) 146 18 (jm_st1 (jm_st1 (jm_st1 L 6 (0, z82)) 4 (0, 1)) 5 (0, l5 + 1)) [] ψ141 x Q) ∧ (¬ z82 = 0 → hw sc (d + 4) 149 0 [(0, (2, 52)), (1, (0, 13)), (2, (0, 0)), (3, (0, 0))] [] ψ141 x (fun r ψ144 y144 => y144 = x ∧ (∃ z144 : Int, r = some (0, z144) ∧ (hw sc (d + 5) 146 18 (jm_st1 (jm_st1 (jm_st1 L 6 (0, z82)) 4 (0, 1)) 5 (0, l5 + 1)) [] ψ144 x Q))))) ∧ (¬ (¬ z141 = 0) → Q (some (0, 0)) ψ141 x))))))))))))))))))))))))))) :
    hw sc (d + 5) 146 18 L [] φ x Q := by
  refine hw_ld (b := 5) (e := 1) (by decide +kernel) g5 ?_
  refine hw_k (c := 20) (b := 1) (e := 2) (by decide +kernel) ?_
  obtain ⟨hz1, hy1, ht1, hf1⟩ := H
  refine hw_if2 (a0 := 0) (b := 3) (e := 123) (by decide +kernel) hz1 hy1 (fun q => ?_) (fun q => ?_)
  · have H := ht1 q
    refine hw_ld (b := 4) (e := 1) (by decide +kernel) g4 ?_
    obtain ⟨hz2, ht2, hf2⟩ := H
    refine hw_if (a0 := 0) (b := 0) (e := 139) (by decide +kernel) hz2 (fun q => ?_) (fun q => ?_)
    · have H := ht2 q
      refine hw_k (c := 1) (b := 0) (e := 1) (by decide +kernel) ?_
      refine hw_goto (a0 := 0) (b := 0) (e := 144) (by decide +kernel) ?_
      exact hw_ret (a0 := 0) (e := 1) (by decide +kernel) (Or.inr ⟨rfl, by decide⟩) H
    · have H := hf2 q
      refine hw_ald (b := 0) (e := 0) (by decide +kernel) g0 (by decide) ?_
      refine hw_k (c := 12) (b := 1) (e := 2) (by decide +kernel) ?_
      refine hw_k (c := 0) (b := 0) (e := 1) (by decide +kernel) ?_
      refine hw_k (c := 0) (b := 0) (e := 1) (by decide +kernel) ?_
      refine hr_call (a0 := 15) (b := 149) (e := 4) (nl := 4) (As := [(0, 12), (0, 0), (0, 0)]) (R := []) 52 rfl (by decide +kernel) rfl rfl (Nat.le_of_ble_eq_true rfl) (Nat.le_of_ble_eq_true rfl) ?_
      refine hw_mono H ?_
      rintro r ψ4 y4 ⟨hyx, z4, hr, H⟩
      subst hyx
      subst hr
      refine ⟨hne0, ?_⟩
      show hw sc (d + 5) 146 136 L [(0, z4)] ψ4 y4 Q
      obtain ⟨hz5, ht5, hf5⟩ := H
      refine hw_if (a0 := 0) (b := 0) (e := 143) (by decide +kernel) hz5 (fun q => ?_) (fun q => ?_)
      · have H := ht5 q
        refine hw_k (c := 0) (b := 0) (e := 1) (by decide +kernel) ?_
        exact hw_ret (a0 := 0) (e := 1) (by decide +kernel) (Or.inr ⟨rfl, by decide⟩) H
      · have H := hf5 q
        refine hw_k (c := 1) (b := 0) (e := 1) (by decide +kernel) ?_
        refine hw_goto (a0 := 0) (b := 0) (e := 144) (by decide +kernel) ?_
        exact hw_ret (a0 := 0) (e := 1) (by decide +kernel) (Or.inr ⟨rfl, by decide⟩) H
  · have H := hf1 q
    refine hw_ald (b := 1) (e := 0) (by decide +kernel) g1 (by decide) ?_
    refine hw_k (c := 13) (b := 1) (e := 2) (by decide +kernel) ?_
    refine hr_call (a0 := 11) (b := 135) (e := 2) (nl := 2) (As := [(0, 13)]) (R := []) 1 rfl (by decide +kernel) rfl rfl (Nat.le_of_ble_eq_true rfl) (Nat.le_of_ble_eq_true rfl) ?_
    refine hw_mono H ?_
    rintro r ψ8 y8 ⟨hyx, hψx, z8, hr, H⟩
    subst hyx
    subst hψx
    subst hr
    refine ⟨hne0, ?_⟩
    show hw sc (d + 5) 146 31 L [(0, z8)] φ y8 Q
    obtain ⟨hz9, ht9, hf9⟩ := H
    refine hw_if (a0 := 0) (b := 1) (e := 43) (by decide +kernel) hz9 (fun q => ?_) (fun q => ?_)
    · have H := ht9 q
      refine hw_ald (b := 1) (e := 0) (by decide +kernel) g1 (by decide) ?_
      refine hw_k (c := 13) (b := 1) (e := 2) (by decide +kernel) ?_
      refine hr_call (a0 := 11) (b := 135) (e := 2) (nl := 2) (As := [(0, 13)]) (R := []) 1 rfl (by decide +kernel) rfl rfl (Nat.le_of_ble_eq_true rfl) (Nat.le_of_ble_eq_true rfl) ?_
      refine hw_mono H ?_
      rintro r ψ10 y10 ⟨hyx, hψx, z10, hr, H⟩
      subst hyx
      subst hψx
      subst hr
      refine ⟨hne0, ?_⟩
      show hw sc (d + 5) 146 49 L [(0, z10)] φ y10 Q
      refine hw_st (L' := (jm_st1 L 6 (0, z10))) (b := 6) (e := 1) (by decide +kernel) rfl ?_
      refine hw_ld (b := 6) (e := 1) (by decide +kernel) get_st1e ?_
      obtain ⟨hz11, ht11, hf11⟩ := H
      refine hw_if (a0 := 0) (b := 1) (e := 70) (by decide +kernel) hz11 (fun q => ?_) (fun q => ?_)
      · have H := ht11 q
        refine hw_ld (b := 4) (e := 1) (by decide +kernel) (get_st1 g4 (by decide) (fun q => absurd q.1 (by decide))) ?_
        obtain ⟨hz12, ht12, hf12⟩ := H
        refine hw_if (a0 := 0) (b := 1) (e := 80) (by decide +kernel) hz12 (fun q => ?_) (fun q => ?_)
        · have H := ht12 q
          refine hw_k (c := 1) (b := 0) (e := 1) (by decide +kernel) ?_
          refine hw_goto (a0 := 0) (b := 0) (e := 85) (by decide +kernel) ?_
          refine hw_st (L' := (jm_st1 (jm_st1 L 6 (0, z10)) 4 (0, 1))) (b := 4) (e := 1) (by decide +kernel) rfl ?_
          refine hw_ald (b := 1) (e := 0) (by decide +kernel) (get_st1 (get_st1 g1 (by decide) (fun q => absurd q.1 (by decide))) (by decide) (fun q => absurd q.1 (by decide))) (by decide) ?_
          refine hr_call (a0 := 11) (b := 29) (e := 1) (nl := 1) (As := []) (R := []) 1 rfl (by decide +kernel) rfl rfl (Nat.le_of_ble_eq_true rfl) (Nat.le_of_ble_eq_true rfl) ?_
          refine hw_mono H ?_
          rintro r ψ13 y13 ⟨hyx, hr, H⟩
          subst hyx
          subst hr
          refine ⟨hnen, ?_⟩
          show hw sc (d + 5) 146 91 (jm_st1 (jm_st1 L 6 (0, z10)) 4 (0, 1)) [] ψ13 y13 Q
          refine hw_ald (b := 0) (e := 0) (by decide +kernel) (get_st1 (get_st1 g0 (by decide) (fun q => absurd q.1 (by decide))) (by decide) (fun q => absurd q.1 (by decide))) (by decide) ?_
          refine hw_ald (b := 1) (e := 0) (by decide +kernel) (get_st1 (get_st1 g1 (by decide) (fun q => absurd q.1 (by decide))) (by decide) (fun q => absurd q.1 (by decide))) (by decide) ?_
          refine hw_ald (b := 2) (e := 0) (by decide +kernel) (get_st1 (get_st1 g2 (by decide) (fun q => absurd q.1 (by decide))) (by decide) (fun q => absurd q.1 (by decide))) (by decide) ?_
          refine hw_ld (b := 3) (e := 0) (by decide +kernel) (get_st1 (get_st1 g3 (by decide) (fun q => absurd q.1 (by decide))) (by decide) (fun q => tg0 q.2)) ?_
          refine hr_call (a0 := 15) (b := 147) (e := 4) (nl := 6) (As := [(2, 1), (2, 5), (0, D)]) (R := []) 52 rfl (by decide +kernel) rfl rfl (Nat.le_of_ble_eq_true rfl) (Nat.le_of_ble_eq_true rfl) ?_
          refine hw_mono H ?_
          rintro r ψ14 y14 ⟨hyx, z14, hr, H⟩
          subst hyx
          subst hr
          refine ⟨hne0, ?_⟩
          show hw sc (d + 5) 146 98 (jm_st1 (jm_st1 L 6 (0, z10)) 4 (0, 1)) [(0, z14)] ψ14 y14 Q
          obtain ⟨hz15, ht15, hf15⟩ := H
          refine hw_if (a0 := 0) (b := 1) (e := 103) (by decide +kernel) hz15 (fun q => ?_) (fun q => ?_)
          · have H := ht15 q
            refine hw_ld (b := 6) (e := 1) (by decide +kernel) (get_st1 get_st1e (by decide) (fun q => absurd q.1 (by decide))) ?_
            obtain ⟨hz16, ht16, hf16⟩ := H
            refine hw_if (a0 := 0) (b := 0) (e := 117) (by decide +kernel) hz16 (fun q => ?_) (fun q => ?_)
            · have H := ht16 q
              refine hw_inc (L' := (jm_st1 (jm_st1 (jm_st1 L 6 (0, z10)) 4 (0, 1)) 5 (0, l5 + 1))) (c := 1) (b := 5) (e := 0) (by decide +kernel) (get_st1 (get_st1 g5 (by decide) (fun q => tg0 q.2)) (by decide) (fun q => absurd q.1 (by decide))) rfl ?_
              refine hw_goto (a0 := 0) (b := 0) (e := 18) (by decide +kernel) ?_
              exact H
            · have H := hf16 q
              refine hw_ald (b := 0) (e := 0) (by decide +kernel) (get_st1 (get_st1 g0 (by decide) (fun q => absurd q.1 (by decide))) (by decide) (fun q => absurd q.1 (by decide))) (by decide) ?_
              refine hw_k (c := 13) (b := 1) (e := 2) (by decide +kernel) ?_
              refine hw_k (c := 0) (b := 0) (e := 1) (by decide +kernel) ?_
              refine hw_k (c := 0) (b := 0) (e := 1) (by decide +kernel) ?_
              refine hr_call (a0 := 15) (b := 149) (e := 4) (nl := 4) (As := [(0, 13), (0, 0), (0, 0)]) (R := []) 52 rfl (by decide +kernel) rfl rfl (Nat.le_of_ble_eq_true rfl) (Nat.le_of_ble_eq_true rfl) ?_
              refine hw_mono H ?_
              rintro r ψ17 y17 ⟨hyx, z17, hr, H⟩
              subst hyx
              subst hr
              refine ⟨hne0, ?_⟩
              show hw sc (d + 5) 146 116 (jm_st1 (jm_st1 L 6 (0, z10)) 4 (0, 1)) [(0, z17)] ψ17 y17 Q
              refine hw_pop (a0 := 0) (e := 0) (by decide +kernel) (by decide) ?_
              refine hw_inc (L' := (jm_st1 (jm_st1 (jm_st1 L 6 (0, z10)) 4 (0, 1)) 5 (0, l5 + 1))) (c := 1) (b := 5) (e := 0) (by decide +kernel) (get_st1 (get_st1 g5 (by decide) (fun q => tg0 q.2)) (by decide) (fun q => absurd q.1 (by decide))) rfl ?_
              refine hw_goto (a0 := 0) (b := 0) (e := 18) (by decide +kernel) ?_
              exact H
          · have H := hf15 q
            refine hw_k (c := 0) (b := 0) (e := 1) (by decide +kernel) ?_
            exact hw_ret (a0 := 0) (e := 1) (by decide +kernel) (Or.inr ⟨rfl, by decide⟩) H
        · have H := hf12 q
          refine hw_ld (b := 6) (e := 1) (by decide +kernel) get_st1e ?_
          obtain ⟨hz19, ht19, hf19⟩ := H
          refine hw_if (a0 := 0) (b := 1) (e := 84) (by decide +kernel) hz19 (fun q => ?_) (fun q => ?_)
          · have H := ht19 q
            refine hw_k (c := 0) (b := 0) (e := 1) (by decide +kernel) ?_
            refine hw_st (L' := (jm_st1 (jm_st1 L 6 (0, z10)) 4 (0, 0))) (b := 4) (e := 1) (by decide +kernel) rfl ?_
            refine hw_ald (b := 1) (e := 0) (by decide +kernel) (get_st1 (get_st1 g1 (by decide) (fun q => absurd q.1 (by decide))) (by decide) (fun q => absurd q.1 (by decide))) (by decide) ?_
            refine hr_call (a0 := 11) (b := 29) (e := 1) (nl := 1) (As := []) (R := []) 1 rfl (by decide +kernel) rfl rfl (Nat.le_of_ble_eq_true rfl) (Nat.le_of_ble_eq_true rfl) ?_
            refine hw_mono H ?_
            rintro r ψ20 y20 ⟨hyx, hr, H⟩
            subst hyx
            subst hr
            refine ⟨hnen, ?_⟩
            show hw sc (d + 5) 146 91 (jm_st1 (jm_st1 L 6 (0, z10)) 4 (0, 0)) [] ψ20 y20 Q
            refine hw_ald (b := 0) (e := 0) (by decide +kernel) (get_st1 (get_st1 g0 (by decide) (fun q => absurd q.1 (by decide))) (by decide) (fun q => absurd q.1 (by decide))) (by decide) ?_
            refine hw_ald (b := 1) (e := 0) (by decide +kernel) (get_st1 (get_st1 g1 (by decide) (fun q => absurd q.1 (by decide))) (by decide) (fun q => absurd q.1 (by decide))) (by decide) ?_
            refine hw_ald (b := 2) (e := 0) (by decide +kernel) (get_st1 (get_st1 g2 (by decide) (fun q => absurd q.1 (by decide))) (by decide) (fun q => absurd q.1 (by decide))) (by decide) ?_
            refine hw_ld (b := 3) (e := 0) (by decide +kernel) (get_st1 (get_st1 g3 (by decide) (fun q => absurd q.1 (by decide))) (by decide) (fun q => tg0 q.2)) ?_
            refine hr_call (a0 := 15) (b := 147) (e := 4) (nl := 6) (As := [(2, 1), (2, 5), (0, D)]) (R := []) 52 rfl (by decide +kernel) rfl rfl (Nat.le_of_ble_eq_true rfl) (Nat.le_of_ble_eq_true rfl) ?_
            refine hw_mono H ?_
            rintro r ψ21 y21 ⟨hyx, z21, hr, H⟩
            subst hyx
            subst hr
            refine ⟨hne0, ?_⟩
            show hw sc (d + 5) 146 98 (jm_st1 (jm_st1 L 6 (0, z10)) 4 (0, 0)) [(0, z21)] ψ21 y21 Q
            obtain ⟨hz22, ht22, hf22⟩ := H
            refine hw_if (a0 := 0) (b := 1) (e := 103) (by decide +kernel) hz22 (fun q => ?_) (fun q => ?_)
            · have H := ht22 q
              refine hw_ld (b := 6) (e := 1) (by decide +kernel) (get_st1 get_st1e (by decide) (fun q => absurd q.1 (by decide))) ?_
              obtain ⟨hz23, ht23, hf23⟩ := H
              refine hw_if (a0 := 0) (b := 0) (e := 117) (by decide +kernel) hz23 (fun q => ?_) (fun q => ?_)
              · have H := ht23 q
                refine hw_inc (L' := (jm_st1 (jm_st1 (jm_st1 L 6 (0, z10)) 4 (0, 0)) 5 (0, l5 + 1))) (c := 1) (b := 5) (e := 0) (by decide +kernel) (get_st1 (get_st1 g5 (by decide) (fun q => tg0 q.2)) (by decide) (fun q => absurd q.1 (by decide))) rfl ?_
                refine hw_goto (a0 := 0) (b := 0) (e := 18) (by decide +kernel) ?_
                exact H
              · have H := hf23 q
                refine hw_ald (b := 0) (e := 0) (by decide +kernel) (get_st1 (get_st1 g0 (by decide) (fun q => absurd q.1 (by decide))) (by decide) (fun q => absurd q.1 (by decide))) (by decide) ?_
                refine hw_k (c := 13) (b := 1) (e := 2) (by decide +kernel) ?_
                refine hw_k (c := 0) (b := 0) (e := 1) (by decide +kernel) ?_
                refine hw_k (c := 0) (b := 0) (e := 1) (by decide +kernel) ?_
                refine hr_call (a0 := 15) (b := 149) (e := 4) (nl := 4) (As := [(0, 13), (0, 0), (0, 0)]) (R := []) 52 rfl (by decide +kernel) rfl rfl (Nat.le_of_ble_eq_true rfl) (Nat.le_of_ble_eq_true rfl) ?_
                refine hw_mono H ?_
                rintro r ψ24 y24 ⟨hyx, z24, hr, H⟩
                subst hyx
                subst hr
                refine ⟨hne0, ?_⟩
                show hw sc (d + 5) 146 116 (jm_st1 (jm_st1 L 6 (0, z10)) 4 (0, 0)) [(0, z24)] ψ24 y24 Q
                refine hw_pop (a0 := 0) (e := 0) (by decide +kernel) (by decide) ?_
                refine hw_inc (L' := (jm_st1 (jm_st1 (jm_st1 L 6 (0, z10)) 4 (0, 0)) 5 (0, l5 + 1))) (c := 1) (b := 5) (e := 0) (by decide +kernel) (get_st1 (get_st1 g5 (by decide) (fun q => tg0 q.2)) (by decide) (fun q => absurd q.1 (by decide))) rfl ?_
                refine hw_goto (a0 := 0) (b := 0) (e := 18) (by decide +kernel) ?_
                exact H
            · have H := hf22 q
              refine hw_k (c := 0) (b := 0) (e := 1) (by decide +kernel) ?_
              exact hw_ret (a0 := 0) (e := 1) (by decide +kernel) (Or.inr ⟨rfl, by decide⟩) H
          · have H := hf19 q
            refine hw_k (c := 1) (b := 0) (e := 1) (by decide +kernel) ?_
            refine hw_goto (a0 := 0) (b := 0) (e := 85) (by decide +kernel) ?_
            refine hw_st (L' := (jm_st1 (jm_st1 L 6 (0, z10)) 4 (0, 1))) (b := 4) (e := 1) (by decide +kernel) rfl ?_
            refine hw_ald (b := 1) (e := 0) (by decide +kernel) (get_st1 (get_st1 g1 (by decide) (fun q => absurd q.1 (by decide))) (by decide) (fun q => absurd q.1 (by decide))) (by decide) ?_
            refine hr_call (a0 := 11) (b := 29) (e := 1) (nl := 1) (As := []) (R := []) 1 rfl (by decide +kernel) rfl rfl (Nat.le_of_ble_eq_true rfl) (Nat.le_of_ble_eq_true rfl) ?_
            refine hw_mono H ?_
            rintro r ψ26 y26 ⟨hyx, hr, H⟩
            subst hyx
            subst hr
            refine ⟨hnen, ?_⟩
            show hw sc (d + 5) 146 91 (jm_st1 (jm_st1 L 6 (0, z10)) 4 (0, 1)) [] ψ26 y26 Q
            refine hw_ald (b := 0) (e := 0) (by decide +kernel) (get_st1 (get_st1 g0 (by decide) (fun q => absurd q.1 (by decide))) (by decide) (fun q => absurd q.1 (by decide))) (by decide) ?_
            refine hw_ald (b := 1) (e := 0) (by decide +kernel) (get_st1 (get_st1 g1 (by decide) (fun q => absurd q.1 (by decide))) (by decide) (fun q => absurd q.1 (by decide))) (by decide) ?_
            refine hw_ald (b := 2) (e := 0) (by decide +kernel) (get_st1 (get_st1 g2 (by decide) (fun q => absurd q.1 (by decide))) (by decide) (fun q => absurd q.1 (by decide))) (by decide) ?_
            refine hw_ld (b := 3) (e := 0) (by decide +kernel) (get_st1 (get_st1 g3 (by decide) (fun q => absurd q.1 (by decide))) (by decide) (fun q => tg0 q.2)) ?_
            refine hr_call (a0 := 15) (b := 147) (e := 4) (nl := 6) (As := [(2, 1), (2, 5), (0, D)]) (R := []) 52 rfl (by decide +kernel) rfl rfl (Nat.le_of_ble_eq_true rfl) (Nat.le_of_ble_eq_true rfl) ?_
            refine hw_mono H ?_
            rintro r ψ27 y27 ⟨hyx, z27, hr, H⟩
            subst hyx
            subst hr
            refine ⟨hne0, ?_⟩
            show hw sc (d + 5) 146 98 (jm_st1 (jm_st1 L 6 (0, z10)) 4 (0, 1)) [(0, z27)] ψ27 y27 Q
            obtain ⟨hz28, ht28, hf28⟩ := H
            refine hw_if (a0 := 0) (b := 1) (e := 103) (by decide +kernel) hz28 (fun q => ?_) (fun q => ?_)
            · have H := ht28 q
              refine hw_ld (b := 6) (e := 1) (by decide +kernel) (get_st1 get_st1e (by decide) (fun q => absurd q.1 (by decide))) ?_
              obtain ⟨hz29, ht29, hf29⟩ := H
              refine hw_if (a0 := 0) (b := 0) (e := 117) (by decide +kernel) hz29 (fun q => ?_) (fun q => ?_)
              · have H := ht29 q
                refine hw_inc (L' := (jm_st1 (jm_st1 (jm_st1 L 6 (0, z10)) 4 (0, 1)) 5 (0, l5 + 1))) (c := 1) (b := 5) (e := 0) (by decide +kernel) (get_st1 (get_st1 g5 (by decide) (fun q => tg0 q.2)) (by decide) (fun q => absurd q.1 (by decide))) rfl ?_
                refine hw_goto (a0 := 0) (b := 0) (e := 18) (by decide +kernel) ?_
                exact H
              · have H := hf29 q
                refine hw_ald (b := 0) (e := 0) (by decide +kernel) (get_st1 (get_st1 g0 (by decide) (fun q => absurd q.1 (by decide))) (by decide) (fun q => absurd q.1 (by decide))) (by decide) ?_
                refine hw_k (c := 13) (b := 1) (e := 2) (by decide +kernel) ?_
                refine hw_k (c := 0) (b := 0) (e := 1) (by decide +kernel) ?_
                refine hw_k (c := 0) (b := 0) (e := 1) (by decide +kernel) ?_
                refine hr_call (a0 := 15) (b := 149) (e := 4) (nl := 4) (As := [(0, 13), (0, 0), (0, 0)]) (R := []) 52 rfl (by decide +kernel) rfl rfl (Nat.le_of_ble_eq_true rfl) (Nat.le_of_ble_eq_true rfl) ?_
                refine hw_mono H ?_
                rintro r ψ30 y30 ⟨hyx, z30, hr, H⟩
                subst hyx
                subst hr
                refine ⟨hne0, ?_⟩
                show hw sc (d + 5) 146 116 (jm_st1 (jm_st1 L 6 (0, z10)) 4 (0, 1)) [(0, z30)] ψ30 y30 Q
                refine hw_pop (a0 := 0) (e := 0) (by decide +kernel) (by decide) ?_
                refine hw_inc (L' := (jm_st1 (jm_st1 (jm_st1 L 6 (0, z10)) 4 (0, 1)) 5 (0, l5 + 1))) (c := 1) (b := 5) (e := 0) (by decide +kernel) (get_st1 (get_st1 g5 (by decide) (fun q => tg0 q.2)) (by decide) (fun q => absurd q.1 (by decide))) rfl ?_
                refine hw_goto (a0 := 0) (b := 0) (e := 18) (by decide +kernel) ?_
                exact H
            · have H := hf28 q
              refine hw_k (c := 0) (b := 0) (e := 1) (by decide +kernel) ?_
              exact hw_ret (a0 := 0) (e := 1) (by decide +kernel) (Or.inr ⟨rfl, by decide⟩) H
      · have H := hf11 q
        refine hw_ld (b := 4) (e := 1) (by decide +kernel) (get_st1 g4 (by decide) (fun q => absurd q.1 (by decide))) ?_
        obtain ⟨hz32, ht32, hf32⟩ := H
        refine hw_if (a0 := 0) (b := 0) (e := 70) (by decide +kernel) hz32 (fun q => ?_) (fun q => ?_)
        · have H := ht32 q
          refine hw_ld (b := 4) (e := 1) (by decide +kernel) (get_st1 g4 (by decide) (fun q => absurd q.1 (by decide))) ?_
          obtain ⟨hz33, ht33, hf33⟩ := H
          refine hw_if (a0 := 0) (b := 1) (e := 80) (by decide +kernel) hz33 (fun q => ?_) (fun q => ?_)
          · have H := ht33 q
            refine hw_k (c := 1) (b := 0) (e := 1) (by decide +kernel) ?_
            refine hw_goto (a0 := 0) (b := 0) (e := 85) (by decide +kernel) ?_
            refine hw_st (L' := (jm_st1 (jm_st1 L 6 (0, z10)) 4 (0, 1))) (b := 4) (e := 1) (by decide +kernel) rfl ?_
            refine hw_ald (b := 1) (e := 0) (by decide +kernel) (get_st1 (get_st1 g1 (by decide) (fun q => absurd q.1 (by decide))) (by decide) (fun q => absurd q.1 (by decide))) (by decide) ?_
            refine hr_call (a0 := 11) (b := 29) (e := 1) (nl := 1) (As := []) (R := []) 1 rfl (by decide +kernel) rfl rfl (Nat.le_of_ble_eq_true rfl) (Nat.le_of_ble_eq_true rfl) ?_
            refine hw_mono H ?_
            rintro r ψ34 y34 ⟨hyx, hr, H⟩
            subst hyx
            subst hr
            refine ⟨hnen, ?_⟩
            show hw sc (d + 5) 146 91 (jm_st1 (jm_st1 L 6 (0, z10)) 4 (0, 1)) [] ψ34 y34 Q
            refine hw_ald (b := 0) (e := 0) (by decide +kernel) (get_st1 (get_st1 g0 (by decide) (fun q => absurd q.1 (by decide))) (by decide) (fun q => absurd q.1 (by decide))) (by decide) ?_
            refine hw_ald (b := 1) (e := 0) (by decide +kernel) (get_st1 (get_st1 g1 (by decide) (fun q => absurd q.1 (by decide))) (by decide) (fun q => absurd q.1 (by decide))) (by decide) ?_
            refine hw_ald (b := 2) (e := 0) (by decide +kernel) (get_st1 (get_st1 g2 (by decide) (fun q => absurd q.1 (by decide))) (by decide) (fun q => absurd q.1 (by decide))) (by decide) ?_
            refine hw_ld (b := 3) (e := 0) (by decide +kernel) (get_st1 (get_st1 g3 (by decide) (fun q => absurd q.1 (by decide))) (by decide) (fun q => tg0 q.2)) ?_
            refine hr_call (a0 := 15) (b := 147) (e := 4) (nl := 6) (As := [(2, 1), (2, 5), (0, D)]) (R := []) 52 rfl (by decide +kernel) rfl rfl (Nat.le_of_ble_eq_true rfl) (Nat.le_of_ble_eq_true rfl) ?_
            refine hw_mono H ?_
            rintro r ψ35 y35 ⟨hyx, z35, hr, H⟩
            subst hyx
            subst hr
            refine ⟨hne0, ?_⟩
            show hw sc (d + 5) 146 98 (jm_st1 (jm_st1 L 6 (0, z10)) 4 (0, 1)) [(0, z35)] ψ35 y35 Q
            obtain ⟨hz36, ht36, hf36⟩ := H
            refine hw_if (a0 := 0) (b := 1) (e := 103) (by decide +kernel) hz36 (fun q => ?_) (fun q => ?_)
            · have H := ht36 q
              refine hw_ld (b := 6) (e := 1) (by decide +kernel) (get_st1 get_st1e (by decide) (fun q => absurd q.1 (by decide))) ?_
              obtain ⟨hz37, ht37, hf37⟩ := H
              refine hw_if (a0 := 0) (b := 0) (e := 117) (by decide +kernel) hz37 (fun q => ?_) (fun q => ?_)
              · have H := ht37 q
                refine hw_inc (L' := (jm_st1 (jm_st1 (jm_st1 L 6 (0, z10)) 4 (0, 1)) 5 (0, l5 + 1))) (c := 1) (b := 5) (e := 0) (by decide +kernel) (get_st1 (get_st1 g5 (by decide) (fun q => tg0 q.2)) (by decide) (fun q => absurd q.1 (by decide))) rfl ?_
                refine hw_goto (a0 := 0) (b := 0) (e := 18) (by decide +kernel) ?_
                exact H
              · have H := hf37 q
                refine hw_ald (b := 0) (e := 0) (by decide +kernel) (get_st1 (get_st1 g0 (by decide) (fun q => absurd q.1 (by decide))) (by decide) (fun q => absurd q.1 (by decide))) (by decide) ?_
                refine hw_k (c := 13) (b := 1) (e := 2) (by decide +kernel) ?_
                refine hw_k (c := 0) (b := 0) (e := 1) (by decide +kernel) ?_
                refine hw_k (c := 0) (b := 0) (e := 1) (by decide +kernel) ?_
                refine hr_call (a0 := 15) (b := 149) (e := 4) (nl := 4) (As := [(0, 13), (0, 0), (0, 0)]) (R := []) 52 rfl (by decide +kernel) rfl rfl (Nat.le_of_ble_eq_true rfl) (Nat.le_of_ble_eq_true rfl) ?_
                refine hw_mono H ?_
                rintro r ψ38 y38 ⟨hyx, z38, hr, H⟩
                subst hyx
                subst hr
                refine ⟨hne0, ?_⟩
                show hw sc (d + 5) 146 116 (jm_st1 (jm_st1 L 6 (0, z10)) 4 (0, 1)) [(0, z38)] ψ38 y38 Q
                refine hw_pop (a0 := 0) (e := 0) (by decide +kernel) (by decide) ?_
                refine hw_inc (L' := (jm_st1 (jm_st1 (jm_st1 L 6 (0, z10)) 4 (0, 1)) 5 (0, l5 + 1))) (c := 1) (b := 5) (e := 0) (by decide +kernel) (get_st1 (get_st1 g5 (by decide) (fun q => tg0 q.2)) (by decide) (fun q => absurd q.1 (by decide))) rfl ?_
                refine hw_goto (a0 := 0) (b := 0) (e := 18) (by decide +kernel) ?_
                exact H
            · have H := hf36 q
              refine hw_k (c := 0) (b := 0) (e := 1) (by decide +kernel) ?_
              exact hw_ret (a0 := 0) (e := 1) (by decide +kernel) (Or.inr ⟨rfl, by decide⟩) H
          · have H := hf33 q
            refine hw_ld (b := 6) (e := 1) (by decide +kernel) get_st1e ?_
            obtain ⟨hz40, ht40, hf40⟩ := H
            refine hw_if (a0 := 0) (b := 1) (e := 84) (by decide +kernel) hz40 (fun q => ?_) (fun q => ?_)
            · have H := ht40 q
              refine hw_k (c := 0) (b := 0) (e := 1) (by decide +kernel) ?_
              refine hw_st (L' := (jm_st1 (jm_st1 L 6 (0, z10)) 4 (0, 0))) (b := 4) (e := 1) (by decide +kernel) rfl ?_
              refine hw_ald (b := 1) (e := 0) (by decide +kernel) (get_st1 (get_st1 g1 (by decide) (fun q => absurd q.1 (by decide))) (by decide) (fun q => absurd q.1 (by decide))) (by decide) ?_
              refine hr_call (a0 := 11) (b := 29) (e := 1) (nl := 1) (As := []) (R := []) 1 rfl (by decide +kernel) rfl rfl (Nat.le_of_ble_eq_true rfl) (Nat.le_of_ble_eq_true rfl) ?_
              refine hw_mono H ?_
              rintro r ψ41 y41 ⟨hyx, hr, H⟩
              subst hyx
              subst hr
              refine ⟨hnen, ?_⟩
              show hw sc (d + 5) 146 91 (jm_st1 (jm_st1 L 6 (0, z10)) 4 (0, 0)) [] ψ41 y41 Q
              refine hw_ald (b := 0) (e := 0) (by decide +kernel) (get_st1 (get_st1 g0 (by decide) (fun q => absurd q.1 (by decide))) (by decide) (fun q => absurd q.1 (by decide))) (by decide) ?_
              refine hw_ald (b := 1) (e := 0) (by decide +kernel) (get_st1 (get_st1 g1 (by decide) (fun q => absurd q.1 (by decide))) (by decide) (fun q => absurd q.1 (by decide))) (by decide) ?_
              refine hw_ald (b := 2) (e := 0) (by decide +kernel) (get_st1 (get_st1 g2 (by decide) (fun q => absurd q.1 (by decide))) (by decide) (fun q => absurd q.1 (by decide))) (by decide) ?_
              refine hw_ld (b := 3) (e := 0) (by decide +kernel) (get_st1 (get_st1 g3 (by decide) (fun q => absurd q.1 (by decide))) (by decide) (fun q => tg0 q.2)) ?_
              refine hr_call (a0 := 15) (b := 147) (e := 4) (nl := 6) (As := [(2, 1), (2, 5), (0, D)]) (R := []) 52 rfl (by decide +kernel) rfl rfl (Nat.le_of_ble_eq_true rfl) (Nat.le_of_ble_eq_true rfl) ?_
              refine hw_mono H ?_
              rintro r ψ42 y42 ⟨hyx, z42, hr, H⟩
              subst hyx
              subst hr
              refine ⟨hne0, ?_⟩
              show hw sc (d + 5) 146 98 (jm_st1 (jm_st1 L 6 (0, z10)) 4 (0, 0)) [(0, z42)] ψ42 y42 Q
              obtain ⟨hz43, ht43, hf43⟩ := H
              refine hw_if (a0 := 0) (b := 1) (e := 103) (by decide +kernel) hz43 (fun q => ?_) (fun q => ?_)
              · have H := ht43 q
                refine hw_ld (b := 6) (e := 1) (by decide +kernel) (get_st1 get_st1e (by decide) (fun q => absurd q.1 (by decide))) ?_
                obtain ⟨hz44, ht44, hf44⟩ := H
                refine hw_if (a0 := 0) (b := 0) (e := 117) (by decide +kernel) hz44 (fun q => ?_) (fun q => ?_)
                · have H := ht44 q
                  refine hw_inc (L' := (jm_st1 (jm_st1 (jm_st1 L 6 (0, z10)) 4 (0, 0)) 5 (0, l5 + 1))) (c := 1) (b := 5) (e := 0) (by decide +kernel) (get_st1 (get_st1 g5 (by decide) (fun q => tg0 q.2)) (by decide) (fun q => absurd q.1 (by decide))) rfl ?_
                  refine hw_goto (a0 := 0) (b := 0) (e := 18) (by decide +kernel) ?_
                  exact H
                · have H := hf44 q
                  refine hw_ald (b := 0) (e := 0) (by decide +kernel) (get_st1 (get_st1 g0 (by decide) (fun q => absurd q.1 (by decide))) (by decide) (fun q => absurd q.1 (by decide))) (by decide) ?_
                  refine hw_k (c := 13) (b := 1) (e := 2) (by decide +kernel) ?_
                  refine hw_k (c := 0) (b := 0) (e := 1) (by decide +kernel) ?_
                  refine hw_k (c := 0) (b := 0) (e := 1) (by decide +kernel) ?_
                  refine hr_call (a0 := 15) (b := 149) (e := 4) (nl := 4) (As := [(0, 13), (0, 0), (0, 0)]) (R := []) 52 rfl (by decide +kernel) rfl rfl (Nat.le_of_ble_eq_true rfl) (Nat.le_of_ble_eq_true rfl) ?_
                  refine hw_mono H ?_
                  rintro r ψ45 y45 ⟨hyx, z45, hr, H⟩
                  subst hyx
                  subst hr
                  refine ⟨hne0, ?_⟩
                  show hw sc (d + 5) 146 116 (jm_st1 (jm_st1 L 6 (0, z10)) 4 (0, 0)) [(0, z45)] ψ45 y45 Q
                  refine hw_pop (a0 := 0) (e := 0) (by decide +kernel) (by decide) ?_
                  refine hw_inc (L' := (jm_st1 (jm_st1 (jm_st1 L 6 (0, z10)) 4 (0, 0)) 5 (0, l5 + 1))) (c := 1) (b := 5) (e := 0) (by decide +kernel) (get_st1 (get_st1 g5 (by decide) (fun q => tg0 q.2)) (by decide) (fun q => absurd q.1 (by decide))) rfl ?_
                  refine hw_goto (a0 := 0) (b := 0) (e := 18) (by decide +kernel) ?_
                  exact H
              · have H := hf43 q
                refine hw_k (c := 0) (b := 0) (e := 1) (by decide +kernel) ?_
                exact hw_ret (a0 := 0) (e := 1) (by decide +kernel) (Or.inr ⟨rfl, by decide⟩) H
            · have H := hf40 q
              refine hw_k (c := 1) (b := 0) (e := 1) (by decide +kernel) ?_
              refine hw_goto (a0 := 0) (b := 0) (e := 85) (by decide +kernel) ?_
              refine hw_st (L' := (jm_st1 (jm_st1 L 6 (0, z10)) 4 (0, 1))) (b := 4) (e := 1) (by decide +kernel) rfl ?_
              refine hw_ald (b := 1) (e := 0) (by decide +kernel) (get_st1 (get_st1 g1 (by decide) (fun q => absurd q.1 (by decide))) (by decide) (fun q => absurd q.1 (by decide))) (by decide) ?_
              refine hr_call (a0 := 11) (b := 29) (e := 1) (nl := 1) (As := []) (R := []) 1 rfl (by decide +kernel) rfl rfl (Nat.le_of_ble_eq_true rfl) (Nat.le_of_ble_eq_true rfl) ?_
              refine hw_mono H ?_
              rintro r ψ47 y47 ⟨hyx, hr, H⟩
              subst hyx
              subst hr
              refine ⟨hnen, ?_⟩
              show hw sc (d + 5) 146 91 (jm_st1 (jm_st1 L 6 (0, z10)) 4 (0, 1)) [] ψ47 y47 Q
              refine hw_ald (b := 0) (e := 0) (by decide +kernel) (get_st1 (get_st1 g0 (by decide) (fun q => absurd q.1 (by decide))) (by decide) (fun q => absurd q.1 (by decide))) (by decide) ?_
              refine hw_ald (b := 1) (e := 0) (by decide +kernel) (get_st1 (get_st1 g1 (by decide) (fun q => absurd q.1 (by decide))) (by decide) (fun q => absurd q.1 (by decide))) (by decide) ?_
              refine hw_ald (b := 2) (e := 0) (by decide +kernel) (get_st1 (get_st1 g2 (by decide) (fun q => absurd q.1 (by decide))) (by decide) (fun q => absurd q.1 (by decide))) (by decide) ?_
              refine hw_ld (b := 3) (e := 0) (by decide +kernel) (get_st1 (get_st1 g3 (by decide) (fun q => absurd q.1 (by decide))) (by decide) (fun q => tg0 q.2)) ?_
              refine hr_call (a0 := 15) (b := 147) (e := 4) (nl := 6) (As := [(2, 1), (2, 5), (0, D)]) (R := []) 52 rfl (by decide +kernel) rfl rfl (Nat.le_of_ble_eq_true rfl) (Nat.le_of_ble_eq_true rfl) ?_
              refine hw_mono H ?_
              rintro r ψ48 y48 ⟨hyx, z48, hr, H⟩
              subst hyx
              subst hr
              refine ⟨hne0, ?_⟩
              show hw sc (d + 5) 146 98 (jm_st1 (jm_st1 L 6 (0, z10)) 4 (0, 1)) [(0, z48)] ψ48 y48 Q
              obtain ⟨hz49, ht49, hf49⟩ := H
              refine hw_if (a0 := 0) (b := 1) (e := 103) (by decide +kernel) hz49 (fun q => ?_) (fun q => ?_)
              · have H := ht49 q
                refine hw_ld (b := 6) (e := 1) (by decide +kernel) (get_st1 get_st1e (by decide) (fun q => absurd q.1 (by decide))) ?_
                obtain ⟨hz50, ht50, hf50⟩ := H
                refine hw_if (a0 := 0) (b := 0) (e := 117) (by decide +kernel) hz50 (fun q => ?_) (fun q => ?_)
                · have H := ht50 q
                  refine hw_inc (L' := (jm_st1 (jm_st1 (jm_st1 L 6 (0, z10)) 4 (0, 1)) 5 (0, l5 + 1))) (c := 1) (b := 5) (e := 0) (by decide +kernel) (get_st1 (get_st1 g5 (by decide) (fun q => tg0 q.2)) (by decide) (fun q => absurd q.1 (by decide))) rfl ?_
                  refine hw_goto (a0 := 0) (b := 0) (e := 18) (by decide +kernel) ?_
                  exact H
                · have H := hf50 q
                  refine hw_ald (b := 0) (e := 0) (by decide +kernel) (get_st1 (get_st1 g0 (by decide) (fun q => absurd q.1 (by decide))) (by decide) (fun q => absurd q.1 (by decide))) (by decide) ?_
                  refine hw_k (c := 13) (b := 1) (e := 2) (by decide +kernel) ?_
                  refine hw_k (c := 0) (b := 0) (e := 1) (by decide +kernel) ?_
                  refine hw_k (c := 0) (b := 0) (e := 1) (by decide +kernel) ?_
                  refine hr_call (a0 := 15) (b := 149) (e := 4) (nl := 4) (As := [(0, 13), (0, 0), (0, 0)]) (R := []) 52 rfl (by decide +kernel) rfl rfl (Nat.le_of_ble_eq_true rfl) (Nat.le_of_ble_eq_true rfl) ?_
                  refine hw_mono H ?_
                  rintro r ψ51 y51 ⟨hyx, z51, hr, H⟩
                  subst hyx
                  subst hr
                  refine ⟨hne0, ?_⟩
                  show hw sc (d + 5) 146 116 (jm_st1 (jm_st1 L 6 (0, z10)) 4 (0, 1)) [(0, z51)] ψ51 y51 Q
                  refine hw_pop (a0 := 0) (e := 0) (by decide +kernel) (by decide) ?_
                  refine hw_inc (L' := (jm_st1 (jm_st1 (jm_st1 L 6 (0, z10)) 4 (0, 1)) 5 (0, l5 + 1))) (c := 1) (b := 5) (e := 0) (by decide +kernel) (get_st1 (get_st1 g5 (by decide) (fun q => tg0 q.2)) (by decide) (fun q => absurd q.1 (by decide))) rfl ?_
                  refine hw_goto (a0 := 0) (b := 0) (e := 18) (by decide +kernel) ?_
                  exact H
              · have H := hf49 q
                refine hw_k (c := 0) (b := 0) (e := 1) (by decide +kernel) ?_
                exact hw_ret (a0 := 0) (e := 1) (by decide +kernel) (Or.inr ⟨rfl, by decide⟩) H
        · have H := hf32 q
          refine hw_ald (b := 0) (e := 0) (by decide +kernel) (get_st1 g0 (by decide) (fun q => absurd q.1 (by decide))) (by decide) ?_
          refine hw_k (c := 12) (b := 1) (e := 2) (by decide +kernel) ?_
          refine hw_k (c := 0) (b := 0) (e := 1) (by decide +kernel) ?_
          refine hw_k (c := 0) (b := 0) (e := 1) (by decide +kernel) ?_
          refine hr_call (a0 := 15) (b := 149) (e := 4) (nl := 4) (As := [(0, 12), (0, 0), (0, 0)]) (R := []) 52 rfl (by decide +kernel) rfl rfl (Nat.le_of_ble_eq_true rfl) (Nat.le_of_ble_eq_true rfl) ?_
          refine hw_mono H ?_
          rintro r ψ53 y53 ⟨hyx, z53, hr, H⟩
          subst hyx
          subst hr
          refine ⟨hne0, ?_⟩
          show hw sc (d + 5) 146 69 (jm_st1 L 6 (0, z10)) [(0, z53)] ψ53 y53 Q
          refine hw_pop (a0 := 0) (e := 0) (by decide +kernel) (by decide) ?_
          refine hw_ld (b := 4) (e := 1) (by decide +kernel) (get_st1 g4 (by decide) (fun q => absurd q.1 (by decide))) ?_
          obtain ⟨hz54, ht54, hf54⟩ := H
          refine hw_if (a0 := 0) (b := 1) (e := 80) (by decide +kernel) hz54 (fun q => ?_) (fun q => ?_)
          · have H := ht54 q
            refine hw_k (c := 1) (b := 0) (e := 1) (by decide +kernel) ?_
            refine hw_goto (a0 := 0) (b := 0) (e := 85) (by decide +kernel) ?_
            refine hw_st (L' := (jm_st1 (jm_st1 L 6 (0, z10)) 4 (0, 1))) (b := 4) (e := 1) (by decide +kernel) rfl ?_
            refine hw_ald (b := 1) (e := 0) (by decide +kernel) (get_st1 (get_st1 g1 (by decide) (fun q => absurd q.1 (by decide))) (by decide) (fun q => absurd q.1 (by decide))) (by decide) ?_
            refine hr_call (a0 := 11) (b := 29) (e := 1) (nl := 1) (As := []) (R := []) 1 rfl (by decide +kernel) rfl rfl (Nat.le_of_ble_eq_true rfl) (Nat.le_of_ble_eq_true rfl) ?_
            refine hw_mono H ?_
            rintro r ψ55 y55 ⟨hyx, hr, H⟩
            subst hyx
            subst hr
            refine ⟨hnen, ?_⟩
            show hw sc (d + 5) 146 91 (jm_st1 (jm_st1 L 6 (0, z10)) 4 (0, 1)) [] ψ55 y55 Q
            refine hw_ald (b := 0) (e := 0) (by decide +kernel) (get_st1 (get_st1 g0 (by decide) (fun q => absurd q.1 (by decide))) (by decide) (fun q => absurd q.1 (by decide))) (by decide) ?_
            refine hw_ald (b := 1) (e := 0) (by decide +kernel) (get_st1 (get_st1 g1 (by decide) (fun q => absurd q.1 (by decide))) (by decide) (fun q => absurd q.1 (by decide))) (by decide) ?_
            refine hw_ald (b := 2) (e := 0) (by decide +kernel) (get_st1 (get_st1 g2 (by decide) (fun q => absurd q.1 (by decide))) (by decide) (fun q => absurd q.1 (by decide))) (by decide) ?_
            refine hw_ld (b := 3) (e := 0) (by decide +kernel) (get_st1 (get_st1 g3 (by decide) (fun q => absurd q.1 (by decide))) (by decide) (fun q => tg0 q.2)) ?_
            refine hr_call (a0 := 15) (b := 147) (e := 4) (nl := 6) (As := [(2, 1), (2, 5), (0, D)]) (R := []) 52 rfl (by decide +kernel) rfl rfl (Nat.le_of_ble_eq_true rfl) (Nat.le_of_ble_eq_true rfl) ?_
            refine hw_mono H ?_
            rintro r ψ56 y56 ⟨hyx, z56, hr, H⟩
            subst hyx
            subst hr
            refine ⟨hne0, ?_⟩
            show hw sc (d + 5) 146 98 (jm_st1 (jm_st1 L 6 (0, z10)) 4 (0, 1)) [(0, z56)] ψ56 y56 Q
            obtain ⟨hz57, ht57, hf57⟩ := H
            refine hw_if (a0 := 0) (b := 1) (e := 103) (by decide +kernel) hz57 (fun q => ?_) (fun q => ?_)
            · have H := ht57 q
              refine hw_ld (b := 6) (e := 1) (by decide +kernel) (get_st1 get_st1e (by decide) (fun q => absurd q.1 (by decide))) ?_
              obtain ⟨hz58, ht58, hf58⟩ := H
              refine hw_if (a0 := 0) (b := 0) (e := 117) (by decide +kernel) hz58 (fun q => ?_) (fun q => ?_)
              · have H := ht58 q
                refine hw_inc (L' := (jm_st1 (jm_st1 (jm_st1 L 6 (0, z10)) 4 (0, 1)) 5 (0, l5 + 1))) (c := 1) (b := 5) (e := 0) (by decide +kernel) (get_st1 (get_st1 g5 (by decide) (fun q => tg0 q.2)) (by decide) (fun q => absurd q.1 (by decide))) rfl ?_
                refine hw_goto (a0 := 0) (b := 0) (e := 18) (by decide +kernel) ?_
                exact H
              · have H := hf58 q
                refine hw_ald (b := 0) (e := 0) (by decide +kernel) (get_st1 (get_st1 g0 (by decide) (fun q => absurd q.1 (by decide))) (by decide) (fun q => absurd q.1 (by decide))) (by decide) ?_
                refine hw_k (c := 13) (b := 1) (e := 2) (by decide +kernel) ?_
                refine hw_k (c := 0) (b := 0) (e := 1) (by decide +kernel) ?_
                refine hw_k (c := 0) (b := 0) (e := 1) (by decide +kernel) ?_
                refine hr_call (a0 := 15) (b := 149) (e := 4) (nl := 4) (As := [(0, 13), (0, 0), (0, 0)]) (R := []) 52 rfl (by decide +kernel) rfl rfl (Nat.le_of_ble_eq_true rfl) (Nat.le_of_ble_eq_true rfl) ?_
                refine hw_mono H ?_
                rintro r ψ59 y59 ⟨hyx, z59, hr, H⟩
                subst hyx
                subst hr
                refine ⟨hne0, ?_⟩
                show hw sc (d + 5) 146 116 (jm_st1 (jm_st1 L 6 (0, z10)) 4 (0, 1)) [(0, z59)] ψ59 y59 Q
                refine hw_pop (a0 := 0) (e := 0) (by decide +kernel) (by decide) ?_
                refine hw_inc (L' := (jm_st1 (jm_st1 (jm_st1 L 6 (0, z10)) 4 (0, 1)) 5 (0, l5 + 1))) (c := 1) (b := 5) (e := 0) (by decide +kernel) (get_st1 (get_st1 g5 (by decide) (fun q => tg0 q.2)) (by decide) (fun q => absurd q.1 (by decide))) rfl ?_
                refine hw_goto (a0 := 0) (b := 0) (e := 18) (by decide +kernel) ?_
                exact H
            · have H := hf57 q
              refine hw_k (c := 0) (b := 0) (e := 1) (by decide +kernel) ?_
              exact hw_ret (a0 := 0) (e := 1) (by decide +kernel) (Or.inr ⟨rfl, by decide⟩) H
          · have H := hf54 q
            refine hw_ld (b := 6) (e := 1) (by decide +kernel) get_st1e ?_
            obtain ⟨hz61, ht61, hf61⟩ := H
            refine hw_if (a0 := 0) (b := 1) (e := 84) (by decide +kernel) hz61 (fun q => ?_) (fun q => ?_)
            · have H := ht61 q
              refine hw_k (c := 0) (b := 0) (e := 1) (by decide +kernel) ?_
              refine hw_st (L' := (jm_st1 (jm_st1 L 6 (0, z10)) 4 (0, 0))) (b := 4) (e := 1) (by decide +kernel) rfl ?_
              refine hw_ald (b := 1) (e := 0) (by decide +kernel) (get_st1 (get_st1 g1 (by decide) (fun q => absurd q.1 (by decide))) (by decide) (fun q => absurd q.1 (by decide))) (by decide) ?_
              refine hr_call (a0 := 11) (b := 29) (e := 1) (nl := 1) (As := []) (R := []) 1 rfl (by decide +kernel) rfl rfl (Nat.le_of_ble_eq_true rfl) (Nat.le_of_ble_eq_true rfl) ?_
              refine hw_mono H ?_
              rintro r ψ62 y62 ⟨hyx, hr, H⟩
              subst hyx
              subst hr
              refine ⟨hnen, ?_⟩
              show hw sc (d + 5) 146 91 (jm_st1 (jm_st1 L 6 (0, z10)) 4 (0, 0)) [] ψ62 y62 Q
              refine hw_ald (b := 0) (e := 0) (by decide +kernel) (get_st1 (get_st1 g0 (by decide) (fun q => absurd q.1 (by decide))) (by decide) (fun q => absurd q.1 (by decide))) (by decide) ?_
              refine hw_ald (b := 1) (e := 0) (by decide +kernel) (get_st1 (get_st1 g1 (by decide) (fun q => absurd q.1 (by decide))) (by decide) (fun q => absurd q.1 (by decide))) (by decide) ?_
              refine hw_ald (b := 2) (e := 0) (by decide +kernel) (get_st1 (get_st1 g2 (by decide) (fun q => absurd q.1 (by decide))) (by decide) (fun q => absurd q.1 (by decide))) (by decide) ?_
              refine hw_ld (b := 3) (e := 0) (by decide +kernel) (get_st1 (get_st1 g3 (by decide) (fun q => absurd q.1 (by decide))) (by decide) (fun q => tg0 q.2)) ?_
              refine hr_call (a0 := 15) (b := 147) (e := 4) (nl := 6) (As := [(2, 1), (2, 5), (0, D)]) (R := []) 52 rfl (by decide +kernel) rfl rfl (Nat.le_of_ble_eq_true rfl) (Nat.le_of_ble_eq_true rfl) ?_
              refine hw_mono H ?_
              rintro r ψ63 y63 ⟨hyx, z63, hr, H⟩
              subst hyx
              subst hr
              refine ⟨hne0, ?_⟩
              show hw sc (d + 5) 146 98 (jm_st1 (jm_st1 L 6 (0, z10)) 4 (0, 0)) [(0, z63)] ψ63 y63 Q
              obtain ⟨hz64, ht64, hf64⟩ := H
              refine hw_if (a0 := 0) (b := 1) (e := 103) (by decide +kernel) hz64 (fun q => ?_) (fun q => ?_)
              · have H := ht64 q
                refine hw_ld (b := 6) (e := 1) (by decide +kernel) (get_st1 get_st1e (by decide) (fun q => absurd q.1 (by decide))) ?_
                obtain ⟨hz65, ht65, hf65⟩ := H
                refine hw_if (a0 := 0) (b := 0) (e := 117) (by decide +kernel) hz65 (fun q => ?_) (fun q => ?_)
                · have H := ht65 q
                  refine hw_inc (L' := (jm_st1 (jm_st1 (jm_st1 L 6 (0, z10)) 4 (0, 0)) 5 (0, l5 + 1))) (c := 1) (b := 5) (e := 0) (by decide +kernel) (get_st1 (get_st1 g5 (by decide) (fun q => tg0 q.2)) (by decide) (fun q => absurd q.1 (by decide))) rfl ?_
                  refine hw_goto (a0 := 0) (b := 0) (e := 18) (by decide +kernel) ?_
                  exact H
                · have H := hf65 q
                  refine hw_ald (b := 0) (e := 0) (by decide +kernel) (get_st1 (get_st1 g0 (by decide) (fun q => absurd q.1 (by decide))) (by decide) (fun q => absurd q.1 (by decide))) (by decide) ?_
                  refine hw_k (c := 13) (b := 1) (e := 2) (by decide +kernel) ?_
                  refine hw_k (c := 0) (b := 0) (e := 1) (by decide +kernel) ?_
                  refine hw_k (c := 0) (b := 0) (e := 1) (by decide +kernel) ?_
                  refine hr_call (a0 := 15) (b := 149) (e := 4) (nl := 4) (As := [(0, 13), (0, 0), (0, 0)]) (R := []) 52 rfl (by decide +kernel) rfl rfl (Nat.le_of_ble_eq_true rfl) (Nat.le_of_ble_eq_true rfl) ?_
                  refine hw_mono H ?_
                  rintro r ψ66 y66 ⟨hyx, z66, hr, H⟩
                  subst hyx
                  subst hr
                  refine ⟨hne0, ?_⟩
                  show hw sc (d + 5) 146 116 (jm_st1 (jm_st1 L 6 (0, z10)) 4 (0, 0)) [(0, z66)] ψ66 y66 Q
                  refine hw_pop (a0 := 0) (e := 0) (by decide +kernel) (by decide) ?_
                  refine hw_inc (L' := (jm_st1 (jm_st1 (jm_st1 L 6 (0, z10)) 4 (0, 0)) 5 (0, l5 + 1))) (c := 1) (b := 5) (e := 0) (by decide +kernel) (get_st1 (get_st1 g5 (by decide) (fun q => tg0 q.2)) (by decide) (fun q => absurd q.1 (by decide))) rfl ?_
                  refine hw_goto (a0 := 0) (b := 0) (e := 18) (by decide +kernel) ?_
                  exact H
              · have H := hf64 q
                refine hw_k (c := 0) (b := 0) (e := 1) (by decide +kernel) ?_
                exact hw_ret (a0 := 0) (e := 1) (by decide +kernel) (Or.inr ⟨rfl, by decide⟩) H
            · have H := hf61 q
              refine hw_k (c := 1) (b := 0) (e := 1) (by decide +kernel) ?_
              refine hw_goto (a0 := 0) (b := 0) (e := 85) (by decide +kernel) ?_
              refine hw_st (L' := (jm_st1 (jm_st1 L 6 (0, z10)) 4 (0, 1))) (b := 4) (e := 1) (by decide +kernel) rfl ?_
              refine hw_ald (b := 1) (e := 0) (by decide +kernel) (get_st1 (get_st1 g1 (by decide) (fun q => absurd q.1 (by decide))) (by decide) (fun q => absurd q.1 (by decide))) (by decide) ?_
              refine hr_call (a0 := 11) (b := 29) (e := 1) (nl := 1) (As := []) (R := []) 1 rfl (by decide +kernel) rfl rfl (Nat.le_of_ble_eq_true rfl) (Nat.le_of_ble_eq_true rfl) ?_
              refine hw_mono H ?_
              rintro r ψ68 y68 ⟨hyx, hr, H⟩
              subst hyx
              subst hr
              refine ⟨hnen, ?_⟩
              show hw sc (d + 5) 146 91 (jm_st1 (jm_st1 L 6 (0, z10)) 4 (0, 1)) [] ψ68 y68 Q
              refine hw_ald (b := 0) (e := 0) (by decide +kernel) (get_st1 (get_st1 g0 (by decide) (fun q => absurd q.1 (by decide))) (by decide) (fun q => absurd q.1 (by decide))) (by decide) ?_
              refine hw_ald (b := 1) (e := 0) (by decide +kernel) (get_st1 (get_st1 g1 (by decide) (fun q => absurd q.1 (by decide))) (by decide) (fun q => absurd q.1 (by decide))) (by decide) ?_
              refine hw_ald (b := 2) (e := 0) (by decide +kernel) (get_st1 (get_st1 g2 (by decide) (fun q => absurd q.1 (by decide))) (by decide) (fun q => absurd q.1 (by decide))) (by decide) ?_
              refine hw_ld (b := 3) (e := 0) (by decide +kernel) (get_st1 (get_st1 g3 (by decide) (fun q => absurd q.1 (by decide))) (by decide) (fun q => tg0 q.2)) ?_
              refine hr_call (a0 := 15) (b := 147) (e := 4) (nl := 6) (As := [(2, 1), (2, 5), (0, D)]) (R := []) 52 rfl (by decide +kernel) rfl rfl (Nat.le_of_ble_eq_true rfl) (Nat.le_of_ble_eq_true rfl) ?_
              refine hw_mono H ?_
              rintro r ψ69 y69 ⟨hyx, z69, hr, H⟩
              subst hyx
              subst hr
              refine ⟨hne0, ?_⟩
              show hw sc (d + 5) 146 98 (jm_st1 (jm_st1 L 6 (0, z10)) 4 (0, 1)) [(0, z69)] ψ69 y69 Q
              obtain ⟨hz70, ht70, hf70⟩ := H
              refine hw_if (a0 := 0) (b := 1) (e := 103) (by decide +kernel) hz70 (fun q => ?_) (fun q => ?_)
              · have H := ht70 q
                refine hw_ld (b := 6) (e := 1) (by decide +kernel) (get_st1 get_st1e (by decide) (fun q => absurd q.1 (by decide))) ?_
                obtain ⟨hz71, ht71, hf71⟩ := H
                refine hw_if (a0 := 0) (b := 0) (e := 117) (by decide +kernel) hz71 (fun q => ?_) (fun q => ?_)
                · have H := ht71 q
                  refine hw_inc (L' := (jm_st1 (jm_st1 (jm_st1 L 6 (0, z10)) 4 (0, 1)) 5 (0, l5 + 1))) (c := 1) (b := 5) (e := 0) (by decide +kernel) (get_st1 (get_st1 g5 (by decide) (fun q => tg0 q.2)) (by decide) (fun q => absurd q.1 (by decide))) rfl ?_
                  refine hw_goto (a0 := 0) (b := 0) (e := 18) (by decide +kernel) ?_
                  exact H
                · have H := hf71 q
                  refine hw_ald (b := 0) (e := 0) (by decide +kernel) (get_st1 (get_st1 g0 (by decide) (fun q => absurd q.1 (by decide))) (by decide) (fun q => absurd q.1 (by decide))) (by decide) ?_
                  refine hw_k (c := 13) (b := 1) (e := 2) (by decide +kernel) ?_
                  refine hw_k (c := 0) (b := 0) (e := 1) (by decide +kernel) ?_
                  refine hw_k (c := 0) (b := 0) (e := 1) (by decide +kernel) ?_
                  refine hr_call (a0 := 15) (b := 149) (e := 4) (nl := 4) (As := [(0, 13), (0, 0), (0, 0)]) (R := []) 52 rfl (by decide +kernel) rfl rfl (Nat.le_of_ble_eq_true rfl) (Nat.le_of_ble_eq_true rfl) ?_
                  refine hw_mono H ?_
                  rintro r ψ72 y72 ⟨hyx, z72, hr, H⟩
                  subst hyx
                  subst hr
                  refine ⟨hne0, ?_⟩
                  show hw sc (d + 5) 146 116 (jm_st1 (jm_st1 L 6 (0, z10)) 4 (0, 1)) [(0, z72)] ψ72 y72 Q
                  refine hw_pop (a0 := 0) (e := 0) (by decide +kernel) (by decide) ?_
                  refine hw_inc (L' := (jm_st1 (jm_st1 (jm_st1 L 6 (0, z10)) 4 (0, 1)) 5 (0, l5 + 1))) (c := 1) (b := 5) (e := 0) (by decide +kernel) (get_st1 (get_st1 g5 (by decide) (fun q => tg0 q.2)) (by decide) (fun q => absurd q.1 (by decide))) rfl ?_
                  refine hw_goto (a0 := 0) (b := 0) (e := 18) (by decide +kernel) ?_
                  exact H
              · have H := hf70 q
                refine hw_k (c := 0) (b := 0) (e := 1) (by decide +kernel) ?_
                exact hw_ret (a0 := 0) (e := 1) (by decide +kernel) (Or.inr ⟨rfl, by decide⟩) H
    · have H := hf9 q
      refine hw_ald (b := 1) (e := 0) (by decide +kernel) g1 (by decide) ?_
      refine hw_k (c := 12) (b := 1) (e := 2) (by decide +kernel) ?_
      refine hr_call (a0 := 11) (b := 135) (e := 2) (nl := 2) (As := [(0, 12)]) (R := []) 1 rfl (by decide +kernel) rfl rfl (Nat.le_of_ble_eq_true rfl) (Nat.le_of_ble_eq_true rfl) ?_
      refine hw_mono H ?_
      rintro r ψ74 y74 ⟨hyx, hψx, z74, hr, H⟩
      subst hyx
      subst hψx
      subst hr
      refine ⟨hne0, ?_⟩
      show hw sc (d + 5) 146 40 L [(0, z74)] φ y74 Q
      obtain ⟨hz75, ht75, hf75⟩ := H
      refine hw_if (a0 := 0) (b := 0) (e := 123) (by decide +kernel) hz75 (fun q => ?_) (fun q => ?_)
      · have H := ht75 q
        refine hw_ld (b := 4) (e := 1) (by decide +kernel) g4 ?_
        obtain ⟨hz76, ht76, hf76⟩ := H
        refine hw_if (a0 := 0) (b := 0) (e := 139) (by decide +kernel) hz76 (fun q => ?_) (fun q => ?_)
        · have H := ht76 q
          refine hw_k (c := 1) (b := 0) (e := 1) (by decide +kernel) ?_
          refine hw_goto (a0 := 0) (b := 0) (e := 144) (by decide +kernel) ?_
          exact hw_ret (a0 := 0) (e := 1) (by decide +kernel) (Or.inr ⟨rfl, by decide⟩) H
        · have H := hf76 q
          refine hw_ald (b := 0) (e := 0) (by decide +kernel) g0 (by decide) ?_
          refine hw_k (c := 12) (b := 1) (e := 2) (by decide +kernel) ?_
          refine hw_k (c := 0) (b := 0) (e := 1) (by decide +kernel) ?_
          refine hw_k (c := 0) (b := 0) (e := 1) (by decide +kernel) ?_
          refine hr_call (a0 := 15) (b := 149) (e := 4) (nl := 4) (As := [(0, 12), (0, 0), (0, 0)]) (R := []) 52 rfl (by decide +kernel) rfl rfl (Nat.le_of_ble_eq_true rfl) (Nat.le_of_ble_eq_true rfl) ?_
          refine hw_mono H ?_
          rintro r ψ78 y78 ⟨hyx, z78, hr, H⟩
          subst hyx
          subst hr
          refine ⟨hne0, ?_⟩
          show hw sc (d + 5) 146 136 L [(0, z78)] ψ78 y78 Q
          obtain ⟨hz79, ht79, hf79⟩ := H
          refine hw_if (a0 := 0) (b := 0) (e := 143) (by decide +kernel) hz79 (fun q => ?_) (fun q => ?_)
          · have H := ht79 q
            refine hw_k (c := 0) (b := 0) (e := 1) (by decide +kernel) ?_
            exact hw_ret (a0 := 0) (e := 1) (by decide +kernel) (Or.inr ⟨rfl, by decide⟩) H
          · have H := hf79 q
            refine hw_k (c := 1) (b := 0) (e := 1) (by decide +kernel) ?_
            refine hw_goto (a0 := 0) (b := 0) (e := 144) (by decide +kernel) ?_
            exact hw_ret (a0 := 0) (e := 1) (by decide +kernel) (Or.inr ⟨rfl, by decide⟩) H
      · have H := hf75 q
        refine hw_ald (b := 1) (e := 0) (by decide +kernel) g1 (by decide) ?_
        refine hw_k (c := 13) (b := 1) (e := 2) (by decide +kernel) ?_
        refine hr_call (a0 := 11) (b := 135) (e := 2) (nl := 2) (As := [(0, 13)]) (R := []) 1 rfl (by decide +kernel) rfl rfl (Nat.le_of_ble_eq_true rfl) (Nat.le_of_ble_eq_true rfl) ?_
        refine hw_mono H ?_
        rintro r ψ82 y82 ⟨hyx, hψx, z82, hr, H⟩
        subst hyx
        subst hψx
        subst hr
        refine ⟨hne0, ?_⟩
        show hw sc (d + 5) 146 49 L [(0, z82)] φ y82 Q
        refine hw_st (L' := (jm_st1 L 6 (0, z82))) (b := 6) (e := 1) (by decide +kernel) rfl ?_
        refine hw_ld (b := 6) (e := 1) (by decide +kernel) get_st1e ?_
        obtain ⟨hz83, ht83, hf83⟩ := H
        refine hw_if (a0 := 0) (b := 1) (e := 70) (by decide +kernel) hz83 (fun q => ?_) (fun q => ?_)
        · have H := ht83 q
          refine hw_ld (b := 4) (e := 1) (by decide +kernel) (get_st1 g4 (by decide) (fun q => absurd q.1 (by decide))) ?_
          obtain ⟨hz84, ht84, hf84⟩ := H
          refine hw_if (a0 := 0) (b := 1) (e := 80) (by decide +kernel) hz84 (fun q => ?_) (fun q => ?_)
          · have H := ht84 q
            refine hw_k (c := 1) (b := 0) (e := 1) (by decide +kernel) ?_
            refine hw_goto (a0 := 0) (b := 0) (e := 85) (by decide +kernel) ?_
            refine hw_st (L' := (jm_st1 (jm_st1 L 6 (0, z82)) 4 (0, 1))) (b := 4) (e := 1) (by decide +kernel) rfl ?_
            refine hw_ald (b := 1) (e := 0) (by decide +kernel) (get_st1 (get_st1 g1 (by decide) (fun q => absurd q.1 (by decide))) (by decide) (fun q => absurd q.1 (by decide))) (by decide) ?_
            refine hr_call (a0 := 11) (b := 29) (e := 1) (nl := 1) (As := []) (R := []) 1 rfl (by decide +kernel) rfl rfl (Nat.le_of_ble_eq_true rfl) (Nat.le_of_ble_eq_true rfl) ?_
            refine hw_mono H ?_
            rintro r ψ85 y85 ⟨hyx, hr, H⟩
            subst hyx
            subst hr
            refine ⟨hnen, ?_⟩
            show hw sc (d + 5) 146 91 (jm_st1 (jm_st1 L 6 (0, z82)) 4 (0, 1)) [] ψ85 y85 Q
            refine hw_ald (b := 0) (e := 0) (by decide +kernel) (get_st1 (get_st1 g0 (by decide) (fun q => absurd q.1 (by decide))) (by decide) (fun q => absurd q.1 (by decide))) (by decide) ?_
            refine hw_ald (b := 1) (e := 0) (by decide +kernel) (get_st1 (get_st1 g1 (by decide) (fun q => absurd q.1 (by decide))) (by decide) (fun q => absurd q.1 (by decide))) (by decide) ?_
            refine hw_ald (b := 2) (e := 0) (by decide +kernel) (get_st1 (get_st1 g2 (by decide) (fun q => absurd q.1 (by decide))) (by decide) (fun q => absurd q.1 (by decide))) (by decide) ?_
            refine hw_ld (b := 3) (e := 0) (by decide +kernel) (get_st1 (get_st1 g3 (by decide) (fun q => absurd q.1 (by decide))) (by decide) (fun q => tg0 q.2)) ?_
            refine hr_call (a0 := 15) (b := 147) (e := 4) (nl := 6) (As := [(2, 1), (2, 5), (0, D)]) (R := []) 52 rfl (by decide +kernel) rfl rfl (Nat.le_of_ble_eq_true rfl) (Nat.le_of_ble_eq_true rfl) ?_
            refine hw_mono H ?_
            rintro r ψ86 y86 ⟨hyx, z86, hr, H⟩
            subst hyx
            subst hr
            refine ⟨hne0, ?_⟩
            show hw sc (d + 5) 146 98 (jm_st1 (jm_st1 L 6 (0, z82)) 4 (0, 1)) [(0, z86)] ψ86 y86 Q
            obtain ⟨hz87, ht87, hf87⟩ := H
            refine hw_if (a0 := 0) (b := 1) (e := 103) (by decide +kernel) hz87 (fun q => ?_) (fun q => ?_)
            · have H := ht87 q
              refine hw_ld (b := 6) (e := 1) (by decide +kernel) (get_st1 get_st1e (by decide) (fun q => absurd q.1 (by decide))) ?_
              obtain ⟨hz88, ht88, hf88⟩ := H
              refine hw_if (a0 := 0) (b := 0) (e := 117) (by decide +kernel) hz88 (fun q => ?_) (fun q => ?_)
              · have H := ht88 q
                refine hw_inc (L' := (jm_st1 (jm_st1 (jm_st1 L 6 (0, z82)) 4 (0, 1)) 5 (0, l5 + 1))) (c := 1) (b := 5) (e := 0) (by decide +kernel) (get_st1 (get_st1 g5 (by decide) (fun q => tg0 q.2)) (by decide) (fun q => absurd q.1 (by decide))) rfl ?_
                refine hw_goto (a0 := 0) (b := 0) (e := 18) (by decide +kernel) ?_
                exact H
              · have H := hf88 q
                refine hw_ald (b := 0) (e := 0) (by decide +kernel) (get_st1 (get_st1 g0 (by decide) (fun q => absurd q.1 (by decide))) (by decide) (fun q => absurd q.1 (by decide))) (by decide) ?_
                refine hw_k (c := 13) (b := 1) (e := 2) (by decide +kernel) ?_
                refine hw_k (c := 0) (b := 0) (e := 1) (by decide +kernel) ?_
                refine hw_k (c := 0) (b := 0) (e := 1) (by decide +kernel) ?_
                refine hr_call (a0 := 15) (b := 149) (e := 4) (nl := 4) (As := [(0, 13), (0, 0), (0, 0)]) (R := []) 52 rfl (by decide +kernel) rfl rfl (Nat.le_of_ble_eq_true rfl) (Nat.le_of_ble_eq_true rfl) ?_
                refine hw_mono H ?_
                rintro r ψ89 y89 ⟨hyx, z89, hr, H⟩
                subst hyx
                subst hr
                refine ⟨hne0, ?_⟩
                show hw sc (d + 5) 146 116 (jm_st1 (jm_st1 L 6 (0, z82)) 4 (0, 1)) [(0, z89)] ψ89 y89 Q
                refine hw_pop (a0 := 0) (e := 0) (by decide +kernel) (by decide) ?_
                refine hw_inc (L' := (jm_st1 (jm_st1 (jm_st1 L 6 (0, z82)) 4 (0, 1)) 5 (0, l5 + 1))) (c := 1) (b := 5) (e := 0) (by decide +kernel) (get_st1 (get_st1 g5 (by decide) (fun q => tg0 q.2)) (by decide) (fun q => absurd q.1 (by decide))) rfl ?_
                refine hw_goto (a0 := 0) (b := 0) (e := 18) (by decide +kernel) ?_
                exact H
            · have H := hf87 q
              refine hw_k (c := 0) (b := 0) (e := 1) (by decide +kernel) ?_
              exact hw_ret (a0 := 0) (e := 1) (by decide +kernel) (Or.inr ⟨rfl, by decide⟩) H
          · have H := hf84 q
            refine hw_ld (b := 6) (e := 1) (by decide +kernel) get_st1e ?_
            obtain ⟨hz91, ht91, hf91⟩ := H
            refine hw_if (a0 := 0) (b := 1) (e := 84) (by decide +kernel) hz91 (fun q => ?_) (fun q => ?_)
            · have H := ht91 q
              refine hw_k (c := 0) (b := 0) (e := 1) (by decide +kernel) ?_
              refine hw_st (L' := (jm_st1 (jm_st1 L 6 (0, z82)) 4 (0, 0))) (b := 4) (e := 1) (by decide +kernel) rfl ?_
              refine hw_ald (b := 1) (e := 0) (by decide +kernel) (get_st1 (get_st1 g1 (by decide) (fun q => absurd q.1 (by decide))) (by decide) (fun q => absurd q.1 (by decide))) (by decide) ?_
              refine hr_call (a0 := 11) (b := 29) (e := 1) (nl := 1) (As := []) (R := []) 1 rfl (by decide +kernel) rfl rfl (Nat.le_of_ble_eq_true rfl) (Nat.le_of_ble_eq_true rfl) ?_
              refine hw_mono H ?_
              rintro r ψ92 y92 ⟨hyx, hr, H⟩
              subst hyx
              subst hr
              refine ⟨hnen, ?_⟩
              show hw sc (d + 5) 146 91 (jm_st1 (jm_st1 L 6 (0, z82)) 4 (0, 0)) [] ψ92 y92 Q
              refine hw_ald (b := 0) (e := 0) (by decide +kernel) (get_st1 (get_st1 g0 (by decide) (fun q => absurd q.1 (by decide))) (by decide) (fun q => absurd q.1 (by decide))) (by decide) ?_
              refine hw_ald (b := 1) (e := 0) (by decide +kernel) (get_st1 (get_st1 g1 (by decide) (fun q => absurd q.1 (by decide))) (by decide) (fun q => absurd q.1 (by decide))) (by decide) ?_
              refine hw_ald (b := 2) (e := 0) (by decide +kernel) (get_st1 (get_st1 g2 (by decide) (fun q => absurd q.1 (by decide))) (by decide) (fun q => absurd q.1 (by decide))) (by decide) ?_
              refine hw_ld (b := 3) (e := 0) (by decide +kernel) (get_st1 (get_st1 g3 (by decide) (fun q => absurd q.1 (by decide))) (by decide) (fun q => tg0 q.2)) ?_
              refine hr_call (a0 := 15) (b := 147) (e := 4) (nl := 6) (As := [(2, 1), (2, 5), (0, D)]) (R := []) 52 rfl (by decide +kernel) rfl rfl (Nat.le_of_ble_eq_true rfl) (Nat.le_of_ble_eq_true rfl) ?_
              refine hw_mono H ?_
              rintro r ψ93 y93 ⟨hyx, z93, hr, H⟩
              subst hyx
              subst hr
              refine ⟨hne0, ?_⟩
              show hw sc (d + 5) 146 98 (jm_st1 (jm_st1 L 6 (0, z82)) 4 (0, 0)) [(0, z93)] ψ93 y93 Q
              obtain ⟨hz94, ht94, hf94⟩ := H
              refine hw_if (a0 := 0) (b := 1) (e := 103) (by decide +kernel) hz94 (fun q => ?_) (fun q => ?_)
              · have H := ht94 q
                refine hw_ld (b := 6) (e := 1) (by decide +kernel) (get_st1 get_st1e (by decide) (fun q => absurd q.1 (by decide))) ?_
                obtain ⟨hz95, ht95, hf95⟩ := H
                refine hw_if (a0 := 0) (b := 0) (e := 117) (by decide +kernel) hz95 (fun q => ?_) (fun q => ?_)
                · have H := ht95 q
                  refine hw_inc (L' := (jm_st1 (jm_st1 (jm_st1 L 6 (0, z82)) 4 (0, 0)) 5 (0, l5 + 1))) (c := 1) (b := 5) (e := 0) (by decide +kernel) (get_st1 (get_st1 g5 (by decide) (fun q => tg0 q.2)) (by decide) (fun q => absurd q.1 (by decide))) rfl ?_
                  refine hw_goto (a0 := 0) (b := 0) (e := 18) (by decide +kernel) ?_
                  exact H
                · have H := hf95 q
                  refine hw_ald (b := 0) (e := 0) (by decide +kernel) (get_st1 (get_st1 g0 (by decide) (fun q => absurd q.1 (by decide))) (by decide) (fun q => absurd q.1 (by decide))) (by decide) ?_
                  refine hw_k (c := 13) (b := 1) (e := 2) (by decide +kernel) ?_
                  refine hw_k (c := 0) (b := 0) (e := 1) (by decide +kernel) ?_
                  refine hw_k (c := 0) (b := 0) (e := 1) (by decide +kernel) ?_
                  refine hr_call (a0 := 15) (b := 149) (e := 4) (nl := 4) (As := [(0, 13), (0, 0), (0, 0)]) (R := []) 52 rfl (by decide +kernel) rfl rfl (Nat.le_of_ble_eq_true rfl) (Nat.le_of_ble_eq_true rfl) ?_
                  refine hw_mono H ?_
                  rintro r ψ96 y96 ⟨hyx, z96, hr, H⟩
                  subst hyx
                  subst hr
                  refine ⟨hne0, ?_⟩
                  show hw sc (d + 5) 146 116 (jm_st1 (jm_st1 L 6 (0, z82)) 4 (0, 0)) [(0, z96)] ψ96 y96 Q
                  refine hw_pop (a0 := 0) (e := 0) (by decide +kernel) (by decide) ?_
                  refine hw_inc (L' := (jm_st1 (jm_st1 (jm_st1 L 6 (0, z82)) 4 (0, 0)) 5 (0, l5 + 1))) (c := 1) (b := 5) (e := 0) (by decide +kernel) (get_st1 (get_st1 g5 (by decide) (fun q => tg0 q.2)) (by decide) (fun q => absurd q.1 (by decide))) rfl ?_
                  refine hw_goto (a0 := 0) (b := 0) (e := 18) (by decide +kernel) ?_
                  exact H
              · have H := hf94 q
                refine hw_k (c := 0) (b := 0) (e := 1) (by decide +kernel) ?_
                exact hw_ret (a0 := 0) (e := 1) (by decide +kernel) (Or.inr ⟨rfl, by decide⟩) H
            · have H := hf91 q
              refine hw_k (c := 1) (b := 0) (e := 1) (by decide +kernel) ?_
              refine hw_goto (a0 := 0) (b := 0) (e := 85) (by decide +kernel) ?_
              refine hw_st (L' := (jm_st1 (jm_st1 L 6 (0, z82)) 4 (0, 1))) (b := 4) (e := 1) (by decide +kernel) rfl ?_
              refine hw_ald (b := 1) (e := 0) (by decide +kernel) (get_st1 (get_st1 g1 (by decide) (fun q => absurd q.1 (by decide))) (by decide) (fun q => absurd q.1 (by decide))) (by decide) ?_
              refine hr_call (a0 := 11) (b := 29) (e := 1) (nl := 1) (As := []) (R := []) 1 rfl (by decide +kernel) rfl rfl (Nat.le_of_ble_eq_true rfl) (Nat.le_of_ble_eq_true rfl) ?_
              refine hw_mono H ?_
              rintro r ψ98 y98 ⟨hyx, hr, H⟩
              subst hyx
              subst hr
              refine ⟨hnen, ?_⟩
              show hw sc (d + 5) 146 91 (jm_st1 (jm_st1 L 6 (0, z82)) 4 (0, 1)) [] ψ98 y98 Q
              refine hw_ald (b := 0) (e := 0) (by decide +kernel) (get_st1 (get_st1 g0 (by decide) (fun q => absurd q.1 (by decide))) (by decide) (fun q => absurd q.1 (by decide))) (by decide) ?_
              refine hw_ald (b := 1) (e := 0) (by decide +kernel) (get_st1 (get_st1 g1 (by decide) (fun q => absurd q.1 (by decide))) (by decide) (fun q => absurd q.1 (by decide))) (by decide) ?_
              refine hw_ald (b := 2) (e := 0) (by decide +kernel) (get_st1 (get_st1 g2 (by decide) (fun q => absurd q.1 (by decide))) (by decide) (fun q => absurd q.1 (by decide))) (by decide) ?_
              refine hw_ld (b := 3) (e := 0) (by decide +kernel) (get_st1 (get_st1 g3 (by decide) (fun q => absurd q.1 (by decide))) (by decide) (fun q => tg0 q.2)) ?_
              refine hr_call (a0 := 15) (b := 147) (e := 4) (nl := 6) (As := [(2, 1), (2, 5), (0, D)]) (R := []) 52 rfl (by decide +kernel) rfl rfl (Nat.le_of_ble_eq_true rfl) (Nat.le_of_ble_eq_true rfl) ?_
              refine hw_mono H ?_
              rintro r ψ99 y99 ⟨hyx, z99, hr, H⟩
              subst hyx
              subst hr
              refine ⟨hne0, ?_⟩
              show hw sc (d + 5) 146 98 (jm_st1 (jm_st1 L 6 (0, z82)) 4 (0, 1)) [(0, z99)] ψ99 y99 Q
              obtain ⟨hz100, ht100, hf100⟩ := H
              refine hw_if (a0 := 0) (b := 1) (e := 103) (by decide +kernel) hz100 (fun q => ?_) (fun q => ?_)
              · have H := ht100 q
                refine hw_ld (b := 6) (e := 1) (by decide +kernel) (get_st1 get_st1e (by decide) (fun q => absurd q.1 (by decide))) ?_
                obtain ⟨hz101, ht101, hf101⟩ := H
                refine hw_if (a0 := 0) (b := 0) (e := 117) (by decide +kernel) hz101 (fun q => ?_) (fun q => ?_)
                · have H := ht101 q
                  refine hw_inc (L' := (jm_st1 (jm_st1 (jm_st1 L 6 (0, z82)) 4 (0, 1)) 5 (0, l5 + 1))) (c := 1) (b := 5) (e := 0) (by decide +kernel) (get_st1 (get_st1 g5 (by decide) (fun q => tg0 q.2)) (by decide) (fun q => absurd q.1 (by decide))) rfl ?_
                  refine hw_goto (a0 := 0) (b := 0) (e := 18) (by decide +kernel) ?_
                  exact H
                · have H := hf101 q
                  refine hw_ald (b := 0) (e := 0) (by decide +kernel) (get_st1 (get_st1 g0 (by decide) (fun q => absurd q.1 (by decide))) (by decide) (fun q => absurd q.1 (by decide))) (by decide) ?_
                  refine hw_k (c := 13) (b := 1) (e := 2) (by decide +kernel) ?_
                  refine hw_k (c := 0) (b := 0) (e := 1) (by decide +kernel) ?_
                  refine hw_k (c := 0) (b := 0) (e := 1) (by decide +kernel) ?_
                  refine hr_call (a0 := 15) (b := 149) (e := 4) (nl := 4) (As := [(0, 13), (0, 0), (0, 0)]) (R := []) 52 rfl (by decide +kernel) rfl rfl (Nat.le_of_ble_eq_true rfl) (Nat.le_of_ble_eq_true rfl) ?_
                  refine hw_mono H ?_
                  rintro r ψ102 y102 ⟨hyx, z102, hr, H⟩
                  subst hyx
                  subst hr
                  refine ⟨hne0, ?_⟩
                  show hw sc (d + 5) 146 116 (jm_st1 (jm_st1 L 6 (0, z82)) 4 (0, 1)) [(0, z102)] ψ102 y102 Q
                  refine hw_pop (a0 := 0) (e := 0) (by decide +kernel) (by decide) ?_
                  refine hw_inc (L' := (jm_st1 (jm_st1 (jm_st1 L 6 (0, z82)) 4 (0, 1)) 5 (0, l5 + 1))) (c := 1) (b := 5) (e := 0) (by decide +kernel) (get_st1 (get_st1 g5 (by decide) (fun q => tg0 q.2)) (by decide) (fun q => absurd q.1 (by decide))) rfl ?_
                  refine hw_goto (a0 := 0) (b := 0) (e := 18) (by decide +kernel) ?_
                  exact H
              · have H := hf100 q
                refine hw_k (c := 0) (b := 0) (e := 1) (by decide +kernel) ?_
                exact hw_ret (a0 := 0) (e := 1) (by decide +kernel) (Or.inr ⟨rfl, by decide⟩) H
        · have H := hf83 q
          refine hw_ld (b := 4) (e := 1) (by decide +kernel) (get_st1 g4 (by decide) (fun q => absurd q.1 (by decide))) ?_
          obtain ⟨hz104, ht104, hf104⟩ := H
          refine hw_if (a0 := 0) (b := 0) (e := 70) (by decide +kernel) hz104 (fun q => ?_) (fun q => ?_)
          · have H := ht104 q
            refine hw_ld (b := 4) (e := 1) (by decide +kernel) (get_st1 g4 (by decide) (fun q => absurd q.1 (by decide))) ?_
            obtain ⟨hz105, ht105, hf105⟩ := H
            refine hw_if (a0 := 0) (b := 1) (e := 80) (by decide +kernel) hz105 (fun q => ?_) (fun q => ?_)
            · have H := ht105 q
              refine hw_k (c := 1) (b := 0) (e := 1) (by decide +kernel) ?_
              refine hw_goto (a0 := 0) (b := 0) (e := 85) (by decide +kernel) ?_
              refine hw_st (L' := (jm_st1 (jm_st1 L 6 (0, z82)) 4 (0, 1))) (b := 4) (e := 1) (by decide +kernel) rfl ?_
              refine hw_ald (b := 1) (e := 0) (by decide +kernel) (get_st1 (get_st1 g1 (by decide) (fun q => absurd q.1 (by decide))) (by decide) (fun q => absurd q.1 (by decide))) (by decide) ?_
              refine hr_call (a0 := 11) (b := 29) (e := 1) (nl := 1) (As := []) (R := []) 1 rfl (by decide +kernel) rfl rfl (Nat.le_of_ble_eq_true rfl) (Nat.le_of_ble_eq_true rfl) ?_
              refine hw_mono H ?_
              rintro r ψ106 y106 ⟨hyx, hr, H⟩
              subst hyx
              subst hr
              refine ⟨hnen, ?_⟩
              show hw sc (d + 5) 146 91 (jm_st1 (jm_st1 L 6 (0, z82)) 4 (0, 1)) [] ψ106 y106 Q
              refine hw_ald (b := 0) (e := 0) (by decide +kernel) (get_st1 (get_st1 g0 (by decide) (fun q => absurd q.1 (by decide))) (by decide) (fun q => absurd q.1 (by decide))) (by decide) ?_
              refine hw_ald (b := 1) (e := 0) (by decide +kernel) (get_st1 (get_st1 g1 (by decide) (fun q => absurd q.1 (by decide))) (by decide) (fun q => absurd q.1 (by decide))) (by decide) ?_
              refine hw_ald (b := 2) (e := 0) (by decide +kernel) (get_st1 (get_st1 g2 (by decide) (fun q => absurd q.1 (by decide))) (by decide) (fun q => absurd q.1 (by decide))) (by decide) ?_
              refine hw_ld (b := 3) (e := 0) (by decide +kernel) (get_st1 (get_st1 g3 (by decide) (fun q => absurd q.1 (by decide))) (by decide) (fun q => tg0 q.2)) ?_
              refine hr_call (a0 := 15) (b := 147) (e := 4) (nl := 6) (As := [(2, 1), (2, 5), (0, D)]) (R := []) 52 rfl (by decide +kernel) rfl rfl (Nat.le_of_ble_eq_true rfl) (Nat.le_of_ble_eq_true rfl) ?_
              refine hw_mono H ?_
              rintro r ψ107 y107 ⟨hyx, z107, hr, H⟩
              subst hyx
              subst hr
              refine ⟨hne0, ?_⟩
              show hw sc (d + 5) 146 98 (jm_st1 (jm_st1 L 6 (0, z82)) 4 (0, 1)) [(0, z107)] ψ107 y107 Q
              obtain ⟨hz108, ht108, hf108⟩ := H
              refine hw_if (a0 := 0) (b := 1) (e := 103) (by decide +kernel) hz108 (fun q => ?_) (fun q => ?_)
              · have H := ht108 q
                refine hw_ld (b := 6) (e := 1) (by decide +kernel) (get_st1 get_st1e (by decide) (fun q => absurd q.1 (by decide))) ?_
                obtain ⟨hz109, ht109, hf109⟩ := H
                refine hw_if (a0 := 0) (b := 0) (e := 117) (by decide +kernel) hz109 (fun q => ?_) (fun q => ?_)
                · have H := ht109 q
                  refine hw_inc (L' := (jm_st1 (jm_st1 (jm_st1 L 6 (0, z82)) 4 (0, 1)) 5 (0, l5 + 1))) (c := 1) (b := 5) (e := 0) (by decide +kernel) (get_st1 (get_st1 g5 (by decide) (fun q => tg0 q.2)) (by decide) (fun q => absurd q.1 (by decide))) rfl ?_
                  refine hw_goto (a0 := 0) (b := 0) (e := 18) (by decide +kernel) ?_
                  exact H
                · have H := hf109 q
                  refine hw_ald (b := 0) (e := 0) (by decide +kernel) (get_st1 (get_st1 g0 (by decide) (fun q => absurd q.1 (by decide))) (by decide) (fun q => absurd q.1 (by decide))) (by decide) ?_
                  refine hw_k (c := 13) (b := 1) (e := 2) (by decide +kernel) ?_
                  refine hw_k (c := 0) (b := 0) (e := 1) (by decide +kernel) ?_
                  refine hw_k (c := 0) (b := 0) (e := 1) (by decide +kernel) ?_
                  refine hr_call (a0 := 15) (b := 149) (e := 4) (nl := 4) (As := [(0, 13), (0, 0), (0, 0)]) (R := []) 52 rfl (by decide +kernel) rfl rfl (Nat.le_of_ble_eq_true rfl) (Nat.le_of_ble_eq_true rfl) ?_
                  refine hw_mono H ?_
                  rintro r ψ110 y110 ⟨hyx, z110, hr, H⟩
                  subst hyx
                  subst hr
                  refine ⟨hne0, ?_⟩
                  show hw sc (d + 5) 146 116 (jm_st1 (jm_st1 L 6 (0, z82)) 4 (0, 1)) [(0, z110)] ψ110 y110 Q
                  refine hw_pop (a0 := 0) (e := 0) (by decide +kernel) (by decide) ?_
                  refine hw_inc (L' := (jm_st1 (jm_st1 (jm_st1 L 6 (0, z82)) 4 (0, 1)) 5 (0, l5 + 1))) (c := 1) (b := 5) (e := 0) (by decide +kernel) (get_st1 (get_st1 g5 (by decide) (fun q => tg0 q.2)) (by decide) (fun q => absurd q.1 (by decide))) rfl ?_
                  refine hw_goto (a0 := 0) (b := 0) (e := 18) (by decide +kernel) ?_
                  exact H
              · have H := hf108 q
                refine hw_k (c := 0) (b := 0) (e := 1) (by decide +kernel) ?_
                exact hw_ret (a0 := 0) (e := 1) (by decide +kernel) (Or.inr ⟨rfl, by decide⟩) H
            · have H := hf105 q
              refine hw_ld (b := 6) (e := 1) (by decide +kernel) get_st1e ?_
              obtain ⟨hz112, ht112, hf112⟩ := H
              refine hw_if (a0 := 0) (b := 1) (e := 84) (by decide +kernel) hz112 (fun q => ?_) (fun q => ?_)
              · have H := ht112 q
                refine hw_k (c := 0) (b := 0) (e := 1) (by decide +kernel) ?_
                refine hw_st (L' := (jm_st1 (jm_st1 L 6 (0, z82)) 4 (0, 0))) (b := 4) (e := 1) (by decide +kernel) rfl ?_
                refine hw_ald (b := 1) (e := 0) (by decide +kernel) (get_st1 (get_st1 g1 (by decide) (fun q => absurd q.1 (by decide))) (by decide) (fun q => absurd q.1 (by decide))) (by decide) ?_
                refine hr_call (a0 := 11) (b := 29) (e := 1) (nl := 1) (As := []) (R := []) 1 rfl (by decide +kernel) rfl rfl (Nat.le_of_ble_eq_true rfl) (Nat.le_of_ble_eq_true rfl) ?_
                refine hw_mono H ?_
                rintro r ψ113 y113 ⟨hyx, hr, H⟩
                subst hyx
                subst hr
                refine ⟨hnen, ?_⟩
                show hw sc (d + 5) 146 91 (jm_st1 (jm_st1 L 6 (0, z82)) 4 (0, 0)) [] ψ113 y113 Q
                refine hw_ald (b := 0) (e := 0) (by decide +kernel) (get_st1 (get_st1 g0 (by decide) (fun q => absurd q.1 (by decide))) (by decide) (fun q => absurd q.1 (by decide))) (by decide) ?_
                refine hw_ald (b := 1) (e := 0) (by decide +kernel) (get_st1 (get_st1 g1 (by decide) (fun q => absurd q.1 (by decide))) (by decide) (fun q => absurd q.1 (by decide))) (by decide) ?_
                refine hw_ald (b := 2) (e := 0) (by decide +kernel) (get_st1 (get_st1 g2 (by decide) (fun q => absurd q.1 (by decide))) (by decide) (fun q => absurd q.1 (by decide))) (by decide) ?_
                refine hw_ld (b := 3) (e := 0) (by decide +kernel) (get_st1 (get_st1 g3 (by decide) (fun q => absurd q.1 (by decide))) (by decide) (fun q => tg0 q.2)) ?_
                refine hr_call (a0 := 15) (b := 147) (e := 4) (nl := 6) (As := [(2, 1), (2, 5), (0, D)]) (R := []) 52 rfl (by decide +kernel) rfl rfl (Nat.le_of_ble_eq_true rfl) (Nat.le_of_ble_eq_true rfl) ?_
                refine hw_mono H ?_
                rintro r ψ114 y114 ⟨hyx, z114, hr, H⟩
                subst hyx
                subst hr
                refine ⟨hne0, ?_⟩
                show hw sc (d + 5) 146 98 (jm_st1 (jm_st1 L 6 (0, z82)) 4 (0, 0)) [(0, z114)] ψ114 y114 Q
                obtain ⟨hz115, ht115, hf115⟩ := H
                refine hw_if (a0 := 0) (b := 1) (e := 103) (by decide +kernel) hz115 (fun q => ?_) (fun q => ?_)
                · have H := ht115 q
                  refine hw_ld (b := 6) (e := 1) (by decide +kernel) (get_st1 get_st1e (by decide) (fun q => absurd q.1 (by decide))) ?_
                  obtain ⟨hz116, ht116, hf116⟩ := H
                  refine hw_if (a0 := 0) (b := 0) (e := 117) (by decide +kernel) hz116 (fun q => ?_) (fun q => ?_)
                  · have H := ht116 q
                    refine hw_inc (L' := (jm_st1 (jm_st1 (jm_st1 L 6 (0, z82)) 4 (0, 0)) 5 (0, l5 + 1))) (c := 1) (b := 5) (e := 0) (by decide +kernel) (get_st1 (get_st1 g5 (by decide) (fun q => tg0 q.2)) (by decide) (fun q => absurd q.1 (by decide))) rfl ?_
                    refine hw_goto (a0 := 0) (b := 0) (e := 18) (by decide +kernel) ?_
                    exact H
                  · have H := hf116 q
                    refine hw_ald (b := 0) (e := 0) (by decide +kernel) (get_st1 (get_st1 g0 (by decide) (fun q => absurd q.1 (by decide))) (by decide) (fun q => absurd q.1 (by decide))) (by decide) ?_
                    refine hw_k (c := 13) (b := 1) (e := 2) (by decide +kernel) ?_
                    refine hw_k (c := 0) (b := 0) (e := 1) (by decide +kernel) ?_
                    refine hw_k (c := 0) (b := 0) (e := 1) (by decide +kernel) ?_
                    refine hr_call (a0 := 15) (b := 149) (e := 4) (nl := 4) (As := [(0, 13), (0, 0), (0, 0)]) (R := []) 52 rfl (by decide +kernel) rfl rfl (Nat.le_of_ble_eq_true rfl) (Nat.le_of_ble_eq_true rfl) ?_
                    refine hw_mono H ?_
                    rintro r ψ117 y117 ⟨hyx, z117, hr, H⟩
                    subst hyx
                    subst hr
                    refine ⟨hne0, ?_⟩
                    show hw sc (d + 5) 146 116 (jm_st1 (jm_st1 L 6 (0, z82)) 4 (0, 0)) [(0, z117)] ψ117 y117 Q
                    refine hw_pop (a0 := 0) (e := 0) (by decide +kernel) (by decide) ?_
                    refine hw_inc (L' := (jm_st1 (jm_st1 (jm_st1 L 6 (0, z82)) 4 (0, 0)) 5 (0, l5 + 1))) (c := 1) (b := 5) (e := 0) (by decide +kernel) (get_st1 (get_st1 g5 (by decide) (fun q => tg0 q.2)) (by decide) (fun q => absurd q.1 (by decide))) rfl ?_
                    refine hw_goto (a0 := 0) (b := 0) (e := 18) (by decide +kernel) ?_
                    exact H
                · have H := hf115 q
                  refine hw_k (c := 0) (b := 0) (e := 1) (by decide +kernel) ?_
                  exact hw_ret (a0 := 0) (e := 1) (by decide +kernel) (Or.inr ⟨rfl, by decide⟩) H
              · have H := hf112 q
                refine hw_k (c := 1) (b := 0) (e := 1) (by decide +kernel) ?_
                refine hw_goto (a0 := 0) (b := 0) (e := 85) (by decide +kernel) ?_
                refine hw_st (L' := (jm_st1 (jm_st1 L 6 (0, z82)) 4 (0, 1))) (b := 4) (e := 1) (by decide +kernel) rfl ?_
                refine hw_ald (b := 1) (e := 0) (by decide +kernel) (get_st1 (get_st1 g1 (by decide) (fun q => absurd q.1 (by decide))) (by decide) (fun q => absurd q.1 (by decide))) (by decide) ?_
                refine hr_call (a0 := 11) (b := 29) (e := 1) (nl := 1) (As := []) (R := []) 1 rfl (by decide +kernel) rfl rfl (Nat.le_of_ble_eq_true rfl) (Nat.le_of_ble_eq_true rfl) ?_
                refine hw_mono H ?_
                rintro r ψ119 y119 ⟨hyx, hr, H⟩
                subst hyx
                subst hr
                refine ⟨hnen, ?_⟩
                show hw sc (d + 5) 146 91 (jm_st1 (jm_st1 L 6 (0, z82)) 4 (0, 1)) [] ψ119 y119 Q
                refine hw_ald (b := 0) (e := 0) (by decide +kernel) (get_st1 (get_st1 g0 (by decide) (fun q => absurd q.1 (by decide))) (by decide) (fun q => absurd q.1 (by decide))) (by decide) ?_
                refine hw_ald (b := 1) (e := 0) (by decide +kernel) (get_st1 (get_st1 g1 (by decide) (fun q => absurd q.1 (by decide))) (by decide) (fun q => absurd q.1 (by decide))) (by decide) ?_
                refine hw_ald (b := 2) (e := 0) (by decide +kernel) (get_st1 (get_st1 g2 (by decide) (fun q => absurd q.1 (by decide))) (by decide) (fun q => absurd q.1 (by decide))) (by decide) ?_
                refine hw_ld (b := 3) (e := 0) (by decide +kernel) (get_st1 (get_st1 g3 (by decide) (fun q => absurd q.1 (by decide))) (by decide) (fun q => tg0 q.2)) ?_
                refine hr_call (a0 := 15) (b := 147) (e := 4) (nl := 6) (As := [(2, 1), (2, 5), (0, D)]) (R := []) 52 rfl (by decide +kernel) rfl rfl (Nat.le_of_ble_eq_true rfl) (Nat.le_of_ble_eq_true rfl) ?_
                refine hw_mono H ?_
                rintro r ψ120 y120 ⟨hyx, z120, hr, H⟩
                subst hyx
                subst hr
                refine ⟨hne0, ?_⟩
                show hw sc (d + 5) 146 98 (jm_st1 (jm_st1 L 6 (0, z82)) 4 (0, 1)) [(0, z120)] ψ120 y120 Q
                obtain ⟨hz121, ht121, hf121⟩ := H
                refine hw_if (a0 := 0) (b := 1) (e := 103) (by decide +kernel) hz121 (fun q => ?_) (fun q => ?_)
                · have H := ht121 q
                  refine hw_ld (b := 6) (e := 1) (by decide +kernel) (get_st1 get_st1e (by decide) (fun q => absurd q.1 (by decide))) ?_
                  obtain ⟨hz122, ht122, hf122⟩ := H
                  refine hw_if (a0 := 0) (b := 0) (e := 117) (by decide +kernel) hz122 (fun q => ?_) (fun q => ?_)
                  · have H := ht122 q
                    refine hw_inc (L' := (jm_st1 (jm_st1 (jm_st1 L 6 (0, z82)) 4 (0, 1)) 5 (0, l5 + 1))) (c := 1) (b := 5) (e := 0) (by decide +kernel) (get_st1 (get_st1 g5 (by decide) (fun q => tg0 q.2)) (by decide) (fun q => absurd q.1 (by decide))) rfl ?_
                    refine hw_goto (a0 := 0) (b := 0) (e := 18) (by decide +kernel) ?_
                    exact H
                  · have H := hf122 q
                    refine hw_ald (b := 0) (e := 0) (by decide +kernel) (get_st1 (get_st1 g0 (by decide) (fun q => absurd q.1 (by decide))) (by decide) (fun q => absurd q.1 (by decide))) (by decide) ?_
                    refine hw_k (c := 13) (b := 1) (e := 2) (by decide +kernel) ?_
                    refine hw_k (c := 0) (b := 0) (e := 1) (by decide +kernel) ?_
                    refine hw_k (c := 0) (b := 0) (e := 1) (by decide +kernel) ?_
                    refine hr_call (a0 := 15) (b := 149) (e := 4) (nl := 4) (As := [(0, 13), (0, 0), (0, 0)]) (R := []) 52 rfl (by decide +kernel) rfl rfl (Nat.le_of_ble_eq_true rfl) (Nat.le_of_ble_eq_true rfl) ?_
                    refine hw_mono H ?_
                    rintro r ψ123 y123 ⟨hyx, z123, hr, H⟩
                    subst hyx
                    subst hr
                    refine ⟨hne0, ?_⟩
                    show hw sc (d + 5) 146 116 (jm_st1 (jm_st1 L 6 (0, z82)) 4 (0, 1)) [(0, z123)] ψ123 y123 Q
                    refine hw_pop (a0 := 0) (e := 0) (by decide +kernel) (by decide) ?_
                    refine hw_inc (L' := (jm_st1 (jm_st1 (jm_st1 L 6 (0, z82)) 4 (0, 1)) 5 (0, l5 + 1))) (c := 1) (b := 5) (e := 0) (by decide +kernel) (get_st1 (get_st1 g5 (by decide) (fun q => tg0 q.2)) (by decide) (fun q => absurd q.1 (by decide))) rfl ?_
                    refine hw_goto (a0 := 0) (b := 0) (e := 18) (by decide +kernel) ?_
                    exact H
                · have H := hf121 q
                  refine hw_k (c := 0) (b := 0) (e := 1) (by decide +kernel) ?_
                  exact hw_ret (a0 := 0) (e := 1) (by decide +kernel) (Or.inr ⟨rfl, by decide⟩) H
          · have H := hf104 q
            refine hw_ald (b := 0) (e := 0) (by decide +kernel) (get_st1 g0 (by decide) (fun q => absurd q.1 (by decide))) (by decide) ?_
            refine hw_k (c := 12) (b := 1) (e := 2) (by decide +kernel) ?_
            refine hw_k (c := 0) (b := 0) (e := 1) (by decide +kernel) ?_
            refine hw_k (c := 0) (b := 0) (e := 1) (by decide +kernel) ?_
            refine hr_call (a0 := 15) (b := 149) (e := 4) (nl := 4) (As := [(0, 12), (0, 0), (0, 0)]) (R := []) 52 rfl (by decide +kernel) rfl rfl (Nat.le_of_ble_eq_true rfl) (Nat.le_of_ble_eq_true rfl) ?_
            refine hw_mono H ?_
            rintro r ψ125 y125 ⟨hyx, z125, hr, H⟩
            subst hyx
            subst hr
            refine ⟨hne0, ?_⟩
            show hw sc (d + 5) 146 69 (jm_st1 L 6 (0, z82)) [(0, z125)] ψ125 y125 Q
            refine hw_pop (a0 := 0) (e := 0) (by decide +kernel) (by decide) ?_
            refine hw_ld (b := 4) (e := 1) (by decide +kernel) (get_st1 g4 (by decide) (fun q => absurd q.1 (by decide))) ?_
            obtain ⟨hz126, ht126, hf126⟩ := H
            refine hw_if (a0 := 0) (b := 1) (e := 80) (by decide +kernel) hz126 (fun q => ?_) (fun q => ?_)
            · have H := ht126 q
              refine hw_k (c := 1) (b := 0) (e := 1) (by decide +kernel) ?_
              refine hw_goto (a0 := 0) (b := 0) (e := 85) (by decide +kernel) ?_
              refine hw_st (L' := (jm_st1 (jm_st1 L 6 (0, z82)) 4 (0, 1))) (b := 4) (e := 1) (by decide +kernel) rfl ?_
              refine hw_ald (b := 1) (e := 0) (by decide +kernel) (get_st1 (get_st1 g1 (by decide) (fun q => absurd q.1 (by decide))) (by decide) (fun q => absurd q.1 (by decide))) (by decide) ?_
              refine hr_call (a0 := 11) (b := 29) (e := 1) (nl := 1) (As := []) (R := []) 1 rfl (by decide +kernel) rfl rfl (Nat.le_of_ble_eq_true rfl) (Nat.le_of_ble_eq_true rfl) ?_
              refine hw_mono H ?_
              rintro r ψ127 y127 ⟨hyx, hr, H⟩
              subst hyx
              subst hr
              refine ⟨hnen, ?_⟩
              show hw sc (d + 5) 146 91 (jm_st1 (jm_st1 L 6 (0, z82)) 4 (0, 1)) [] ψ127 y127 Q
              refine hw_ald (b := 0) (e := 0) (by decide +kernel) (get_st1 (get_st1 g0 (by decide) (fun q => absurd q.1 (by decide))) (by decide) (fun q => absurd q.1 (by decide))) (by decide) ?_
              refine hw_ald (b := 1) (e := 0) (by decide +kernel) (get_st1 (get_st1 g1 (by decide) (fun q => absurd q.1 (by decide))) (by decide) (fun q => absurd q.1 (by decide))) (by decide) ?_
              refine hw_ald (b := 2) (e := 0) (by decide +kernel) (get_st1 (get_st1 g2 (by decide) (fun q => absurd q.1 (by decide))) (by decide) (fun q => absurd q.1 (by decide))) (by decide) ?_
              refine hw_ld (b := 3) (e := 0) (by decide +kernel) (get_st1 (get_st1 g3 (by decide) (fun q => absurd q.1 (by decide))) (by decide) (fun q => tg0 q.2)) ?_
              refine hr_call (a0 := 15) (b := 147) (e := 4) (nl := 6) (As := [(2, 1), (2, 5), (0, D)]) (R := []) 52 rfl (by decide +kernel) rfl rfl (Nat.le_of_ble_eq_true rfl) (Nat.le_of_ble_eq_true rfl) ?_
              refine hw_mono H ?_
              rintro r ψ128 y128 ⟨hyx, z128, hr, H⟩
              subst hyx
              subst hr
              refine ⟨hne0, ?_⟩
              show hw sc (d + 5) 146 98 (jm_st1 (jm_st1 L 6 (0, z82)) 4 (0, 1)) [(0, z128)] ψ128 y128 Q
              obtain ⟨hz129, ht129, hf129⟩ := H
              refine hw_if (a0 := 0) (b := 1) (e := 103) (by decide +kernel) hz129 (fun q => ?_) (fun q => ?_)
              · have H := ht129 q
                refine hw_ld (b := 6) (e := 1) (by decide +kernel) (get_st1 get_st1e (by decide) (fun q => absurd q.1 (by decide))) ?_
                obtain ⟨hz130, ht130, hf130⟩ := H
                refine hw_if (a0 := 0) (b := 0) (e := 117) (by decide +kernel) hz130 (fun q => ?_) (fun q => ?_)
                · have H := ht130 q
                  refine hw_inc (L' := (jm_st1 (jm_st1 (jm_st1 L 6 (0, z82)) 4 (0, 1)) 5 (0, l5 + 1))) (c := 1) (b := 5) (e := 0) (by decide +kernel) (get_st1 (get_st1 g5 (by decide) (fun q => tg0 q.2)) (by decide) (fun q => absurd q.1 (by decide))) rfl ?_
                  refine hw_goto (a0 := 0) (b := 0) (e := 18) (by decide +kernel) ?_
                  exact H
                · have H := hf130 q
                  refine hw_ald (b := 0) (e := 0) (by decide +kernel) (get_st1 (get_st1 g0 (by decide) (fun q => absurd q.1 (by decide))) (by decide) (fun q => absurd q.1 (by decide))) (by decide) ?_
                  refine hw_k (c := 13) (b := 1) (e := 2) (by decide +kernel) ?_
                  refine hw_k (c := 0) (b := 0) (e := 1) (by decide +kernel) ?_
                  refine hw_k (c := 0) (b := 0) (e := 1) (by decide +kernel) ?_
                  refine hr_call (a0 := 15) (b := 149) (e := 4) (nl := 4) (As := [(0, 13), (0, 0), (0, 0)]) (R := []) 52 rfl (by decide +kernel) rfl rfl (Nat.le_of_ble_eq_true rfl) (Nat.le_of_ble_eq_true rfl) ?_
                  refine hw_mono H ?_
                  rintro r ψ131 y131 ⟨hyx, z131, hr, H⟩
                  subst hyx
                  subst hr
                  refine ⟨hne0, ?_⟩
                  show hw sc (d + 5) 146 116 (jm_st1 (jm_st1 L 6 (0, z82)) 4 (0, 1)) [(0, z131)] ψ131 y131 Q
                  refine hw_pop (a0 := 0) (e := 0) (by decide +kernel) (by decide) ?_
                  refine hw_inc (L' := (jm_st1 (jm_st1 (jm_st1 L 6 (0, z82)) 4 (0, 1)) 5 (0, l5 + 1))) (c := 1) (b := 5) (e := 0) (by decide +kernel) (get_st1 (get_st1 g5 (by decide) (fun q => tg0 q.2)) (by decide) (fun q => absurd q.1 (by decide))) rfl ?_
                  refine hw_goto (a0 := 0) (b := 0) (e := 18) (by decide +kernel) ?_
                  exact H
              · have H := hf129 q
                refine hw_k (c := 0) (b := 0) (e := 1) (by decide +kernel) ?_
                exact hw_ret (a0 := 0) (e := 1) (by decide +kernel) (Or.inr ⟨rfl, by decide⟩) H
            · have H := hf126 q
              refine hw_ld (b := 6) (e := 1) (by decide +kernel) get_st1e ?_
              obtain ⟨hz133, ht133, hf133⟩ := H
              refine hw_if (a0 := 0) (b := 1) (e := 84) (by decide +kernel) hz133 (fun q => ?_) (fun q => ?_)
              · have H := ht133 q
                refine hw_k (c := 0) (b := 0) (e := 1) (by decide +kernel) ?_
                refine hw_st (L' := (jm_st1 (jm_st1 L 6 (0, z82)) 4 (0, 0))) (b := 4) (e := 1) (by decide +kernel) rfl ?_
                refine hw_ald (b := 1) (e := 0) (by decide +kernel) (get_st1 (get_st1 g1 (by decide) (fun q => absurd q.1 (by decide))) (by decide) (fun q => absurd q.1 (by decide))) (by decide) ?_
                refine hr_call (a0 := 11) (b := 29) (e := 1) (nl := 1) (As := []) (R := []) 1 rfl (by decide +kernel) rfl rfl (Nat.le_of_ble_eq_true rfl) (Nat.le_of_ble_eq_true rfl) ?_
                refine hw_mono H ?_
                rintro r ψ134 y134 ⟨hyx, hr, H⟩
                subst hyx
                subst hr
                refine ⟨hnen, ?_⟩
                show hw sc (d + 5) 146 91 (jm_st1 (jm_st1 L 6 (0, z82)) 4 (0, 0)) [] ψ134 y134 Q
                refine hw_ald (b := 0) (e := 0) (by decide +kernel) (get_st1 (get_st1 g0 (by decide) (fun q => absurd q.1 (by decide))) (by decide) (fun q => absurd q.1 (by decide))) (by decide) ?_
                refine hw_ald (b := 1) (e := 0) (by decide +kernel) (get_st1 (get_st1 g1 (by decide) (fun q => absurd q.1 (by decide))) (by decide) (fun q => absurd q.1 (by decide))) (by decide) ?_
                refine hw_ald (b := 2) (e := 0) (by decide +kernel) (get_st1 (get_st1 g2 (by decide) (fun q => absurd q.1 (by decide))) (by decide) (fun q => absurd q.1 (by decide))) (by decide) ?_
                refine hw_ld (b := 3) (e := 0) (by decide +kernel) (get_st1 (get_st1 g3 (by decide) (fun q => absurd q.1 (by decide))) (by decide) (fun q => tg0 q.2)) ?_
                refine hr_call (a0 := 15) (b := 147) (e := 4) (nl := 6) (As := [(2, 1), (2, 5), (0, D)]) (R := []) 52 rfl (by decide +kernel) rfl rfl (Nat.le_of_ble_eq_true rfl) (Nat.le_of_ble_eq_true rfl) ?_
                refine hw_mono H ?_
                rintro r ψ135 y135 ⟨hyx, z135, hr, H⟩
                subst hyx
                subst hr
                refine ⟨hne0, ?_⟩
                show hw sc (d + 5) 146 98 (jm_st1 (jm_st1 L 6 (0, z82)) 4 (0, 0)) [(0, z135)] ψ135 y135 Q
                obtain ⟨hz136, ht136, hf136⟩ := H
                refine hw_if (a0 := 0) (b := 1) (e := 103) (by decide +kernel) hz136 (fun q => ?_) (fun q => ?_)
                · have H := ht136 q
                  refine hw_ld (b := 6) (e := 1) (by decide +kernel) (get_st1 get_st1e (by decide) (fun q => absurd q.1 (by decide))) ?_
                  obtain ⟨hz137, ht137, hf137⟩ := H
                  refine hw_if (a0 := 0) (b := 0) (e := 117) (by decide +kernel) hz137 (fun q => ?_) (fun q => ?_)
                  · have H := ht137 q
                    refine hw_inc (L' := (jm_st1 (jm_st1 (jm_st1 L 6 (0, z82)) 4 (0, 0)) 5 (0, l5 + 1))) (c := 1) (b := 5) (e := 0) (by decide +kernel) (get_st1 (get_st1 g5 (by decide) (fun q => tg0 q.2)) (by decide) (fun q => absurd q.1 (by decide))) rfl ?_
                    refine hw_goto (a0 := 0) (b := 0) (e := 18) (by decide +kernel) ?_
                    exact H
                  · have H := hf137 q
                    refine hw_ald (b := 0) (e := 0) (by decide +kernel) (get_st1 (get_st1 g0 (by decide) (fun q => absurd q.1 (by decide))) (by decide) (fun q => absurd q.1 (by decide))) (by decide) ?_
                    refine hw_k (c := 13) (b := 1) (e := 2) (by decide +kernel) ?_
                    refine hw_k (c := 0) (b := 0) (e := 1) (by decide +kernel) ?_
                    refine hw_k (c := 0) (b := 0) (e := 1) (by decide +kernel) ?_
                    refine hr_call (a0 := 15) (b := 149) (e := 4) (nl := 4) (As := [(0, 13), (0, 0), (0, 0)]) (R := []) 52 rfl (by decide +kernel) rfl rfl (Nat.le_of_ble_eq_true rfl) (Nat.le_of_ble_eq_true rfl) ?_
                    refine hw_mono H ?_
                    rintro r ψ138 y138 ⟨hyx, z138, hr, H⟩
                    subst hyx
                    subst hr
                    refine ⟨hne0, ?_⟩
                    show hw sc (d + 5) 146 116 (jm_st1 (jm_st1 L 6 (0, z82)) 4 (0, 0)) [(0, z138)] ψ138 y138 Q
                    refine hw_pop (a0 := 0) (e := 0) (by decide +kernel) (by decide) ?_
                    refine hw_inc (L' := (jm_st1 (jm_st1 (jm_st1 L 6 (0, z82)) 4 (0, 0)) 5 (0, l5 + 1))) (c := 1) (b := 5) (e := 0) (by decide +kernel) (get_st1 (get_st1 g5 (by decide) (fun q => tg0 q.2)) (by decide) (fun q => absurd q.1 (by decide))) rfl ?_
                    refine hw_goto (a0 := 0) (b := 0) (e := 18) (by decide +kernel) ?_
                    exact H
                · have H := hf136 q
                  refine hw_k (c := 0) (b := 0) (e := 1) (by decide +kernel) ?_
                  exact hw_ret (a0 := 0) (e := 1) (by decide +kernel) (Or.inr ⟨rfl, by decide⟩) H
              · have H := hf133 q
                refine hw_k (c := 1) (b := 0) (e := 1) (by decide +kernel) ?_
                refine hw_goto (a0 := 0) (b := 0) (e := 85) (by decide +kernel) ?_
                refine hw_st (L' := (jm_st1 (jm_st1 L 6 (0, z82)) 4 (0, 1))) (b := 4) (e := 1) (by decide +kernel) rfl ?_
                refine hw_ald (b := 1) (e := 0) (by decide +kernel) (get_st1 (get_st1 g1 (by decide) (fun q => absurd q.1 (by decide))) (by decide) (fun q => absurd q.1 (by decide))) (by decide) ?_
                refine hr_call (a0 := 11) (b := 29) (e := 1) (nl := 1) (As := []) (R := []) 1 rfl (by decide +kernel) rfl rfl (Nat.le_of_ble_eq_true rfl) (Nat.le_of_ble_eq_true rfl) ?_
                refine hw_mono H ?_
                rintro r ψ140 y140 ⟨hyx, hr, H⟩
                subst hyx
                subst hr
                refine ⟨hnen, ?_⟩
                show hw sc (d + 5) 146 91 (jm_st1 (jm_st1 L 6 (0, z82)) 4 (0, 1)) [] ψ140 y140 Q
                refine hw_ald (b := 0) (e := 0) (by decide +kernel) (get_st1 (get_st1 g0 (by decide) (fun q => absurd q.1 (by decide))) (by decide) (fun q => absurd q.1 (by decide))) (by decide) ?_
                refine hw_ald (b := 1) (e := 0) (by decide +kernel) (get_st1 (get_st1 g1 (by decide) (fun q => absurd q.1 (by decide))) (by decide) (fun q => absurd q.1 (by decide))) (by decide) ?_
                refine hw_ald (b := 2) (e := 0) (by decide +kernel) (get_st1 (get_st1 g2 (by decide) (fun q => absurd q.1 (by decide))) (by decide) (fun q => absurd q.1 (by decide))) (by decide) ?_
                refine hw_ld (b := 3) (e := 0) (by decide +kernel) (get_st1 (get_st1 g3 (by decide) (fun q => absurd q.1 (by decide))) (by decide) (fun q => tg0 q.2)) ?_
                refine hr_call (a0 := 15) (b := 147) (e := 4) (nl := 6) (As := [(2, 1), (2, 5), (0, D)]) (R := []) 52 rfl (by decide +kernel) rfl rfl (Nat.le_of_ble_eq_true rfl) (Nat.le_of_ble_eq_true rfl) ?_
                refine hw_mono H ?_
                rintro r ψ141 y141 ⟨hyx, z141, hr, H⟩
                subst hyx
                subst hr
                refine ⟨hne0, ?_⟩
                show hw sc (d + 5) 146 98 (jm_st1 (jm_st1 L 6 (0, z82)) 4 (0, 1)) [(0, z141)] ψ141 y141 Q
                obtain ⟨hz142, ht142, hf142⟩ := H
                refine hw_if (a0 := 0) (b := 1) (e := 103) (by decide +kernel) hz142 (fun q => ?_) (fun q => ?_)
                · have H := ht142 q
                  refine hw_ld (b := 6) (e := 1) (by decide +kernel) (get_st1 get_st1e (by decide) (fun q => absurd q.1 (by decide))) ?_
                  obtain ⟨hz143, ht143, hf143⟩ := H
                  refine hw_if (a0 := 0) (b := 0) (e := 117) (by decide +kernel) hz143 (fun q => ?_) (fun q => ?_)
                  · have H := ht143 q
                    refine hw_inc (L' := (jm_st1 (jm_st1 (jm_st1 L 6 (0, z82)) 4 (0, 1)) 5 (0, l5 + 1))) (c := 1) (b := 5) (e := 0) (by decide +kernel) (get_st1 (get_st1 g5 (by decide) (fun q => tg0 q.2)) (by decide) (fun q => absurd q.1 (by decide))) rfl ?_
                    refine hw_goto (a0 := 0) (b := 0) (e := 18) (by decide +kernel) ?_
                    exact H
                  · have H := hf143 q
                    refine hw_ald (b := 0) (e := 0) (by decide +kernel) (get_st1 (get_st1 g0 (by decide) (fun q => absurd q.1 (by decide))) (by decide) (fun q => absurd q.1 (by decide))) (by decide) ?_
                    refine hw_k (c := 13) (b := 1) (e := 2) (by decide +kernel) ?_
                    refine hw_k (c := 0) (b := 0) (e := 1) (by decide +kernel) ?_
                    refine hw_k (c := 0) (b := 0) (e := 1) (by decide +kernel) ?_
                    refine hr_call (a0 := 15) (b := 149) (e := 4) (nl := 4) (As := [(0, 13), (0, 0), (0, 0)]) (R := []) 52 rfl (by decide +kernel) rfl rfl (Nat.le_of_ble_eq_true rfl) (Nat.le_of_ble_eq_true rfl) ?_
                    refine hw_mono H ?_
                    rintro r ψ144 y144 ⟨hyx, z144, hr, H⟩
                    subst hyx
                    subst hr
                    refine ⟨hne0, ?_⟩
                    show hw sc (d + 5) 146 116 (jm_st1 (jm_st1 L 6 (0, z82)) 4 (0, 1)) [(0, z144)] ψ144 y144 Q
                    refine hw_pop (a0 := 0) (e := 0) (by decide +kernel) (by decide) ?_
                    refine hw_inc (L' := (jm_st1 (jm_st1 (jm_st1 L 6 (0, z82)) 4 (0, 1)) 5 (0, l5 + 1))) (c := 1) (b := 5) (e := 0) (by decide +kernel) (get_st1 (get_st1 g5 (by decide) (fun q => tg0 q.2)) (by decide) (fun q => absurd q.1 (by decide))) rfl ?_
                    refine hw_goto (a0 := 0) (b := 0) (e := 18) (by decide +kernel) ?_
                    exact H
                · have H := hf142 q
                  refine hw_k (c := 0) (b := 0) (e := 1) (by decide +kernel) ?_
                  exact hw_ret (a0 := 0) (e := 1) (by decide +kernel) (Or.inr ⟨rfl, by decide⟩) H
theorem sfg_146_l18 {sc : List Int} {d x : Nat} {D : Int} (hD1 : 1 ≤ D) (hD2 : D ≤ 9) {fo : hf_F → Int × hf_F} (hO : ∀ {φ : hf_F} {x : Nat} {Q : Option jm_V → hf_F → Nat → Prop}, Inv φ → (∀ (r : Int) (ψ : hf_F), Inv ψ → Fr [53, 54, 55, 2004, 2005, 2006, 2007, 2008, 2009, 2010, 53003, 53004] φ ψ → 0 ≤ r ∧ r ≤ 1 → fo φ = (r, ψ) → Q (some (0, r)) ψ x) → hw sc (d + 4) 147 0 [(0, (2, 52)), (1, (2, 1)), (2, (2, 5)), (3, (0, D))] [] φ x Q) {Q : Option jm_V → hf_F → Nat → Prop} : ∀ (n : Nat) (φ : hf_F) (L : jm_L) (l4 l5 : Int), jm_get L 0 = some (2, 52) → jm_get L 1 = some (2, 1) → jm_get L 2 = some (2, 5) → jm_get L 3 = some (0, D) → jm_get L 4 = some (0, l4) → jm_get L 5 = some (0, l5) → Inv φ → 20 - l5 < (n : Int) → 0 ≤ l4 → l4 ≤ 1 → 0 ≤ l5 → l5 ≤ 20 → (∀ (r : Int) (ψ : hf_F), Inv ψ → Fr [53, 54, 55, 2004, 2005, 2006, 2007, 2008, 2009, 2010, 53003, 53004] φ ψ → 0 ≤ r ∧ r ≤ 1 → FG_146_l fo n φ l4 l5 = (r, ψ) → Q (some (0, r)) ψ x) → hw sc (d + 5) 146 18 L [] φ x Q := by
  intro n
  induction n with
  | zero =>
    intro φ L l4 l5 g0 g1 g2 g3 g4 g5 hI hM b4a b4b b5a b5b hQ
    exfalso
    omega
  | succ n ih =>
    intro φ L l4 l5 g0 g1 g2 g3 g4 g5 hI hM b4a b4b b5a b5b hQ
    refine sfg_146_v18 hD1 hD2 g0 g1 g2 g3 g4 g5 ?_
    have e0 := FG_146_l_s (fo := fo) (φ := φ) (l4 := l4) (l5 := l5) n
    refine ⟨by unfold hi; omega, by unfold hi; omega, fun q1 => ?_, fun q1 => ?_⟩
    · skip
      have e1a := e0.trans (if_pos q1)
      refine ⟨by unfold hi; omega, fun q2 => ?_, fun q2 => ?_⟩
      · skip
        have e2a := e1a.trans (if_pos q2)
        exact hQ 1 φ hI (fr_rf) ⟨by omega, by omega⟩ e2a
      · skip
        have e2b := e1a.trans (if_neg q2)
        refine sf_149_52 (φ := φ) hI (by omega) (by omega) (by omega) (by omega) (by omega) (by omega) (fun z4 ψ4 hI4 hF4 hp4 hE4 => ⟨rfl, z4, rfl, ?_⟩)
        have hG4 : Fr [53, 54, 55, 2004, 2005, 2006, 2007, 2008, 2009, 2010, 53003, 53004] φ ψ4 := fr_tr (fr_rf) hF4 (by decide)
        have e4 := e2b.trans (bnd_e hE4)
        refine ⟨by unfold hi; omega, fun q5 => ?_, fun q5 => ?_⟩
        · skip
          have e5a := e4.trans (if_pos q5)
          exact hQ 0 ψ4 hI4 hG4 ⟨by omega, by omega⟩ e5a
        · skip
          have e5b := e4.trans (if_neg q5)
          exact hQ 1 ψ4 hI4 hG4 ⟨by omega, by omega⟩ e5b
    · skip
      have e1b := e0.trans (if_neg q1)
      refine sf_135_1 (φ := φ) hI (by omega) (by omega) (fun z8 hp8 hE8 => ⟨rfl, rfl, z8, rfl, ?_⟩)
      have e8 := e1b.trans (bnp_e hE8)
      refine ⟨by unfold hi; omega, fun q9 => ?_, fun q9 => ?_⟩
      · skip
        have e9a := e8.trans (if_pos q9)
        refine sf_135_1 (φ := φ) hI (by omega) (by omega) (fun z10 hp10 hE10 => ⟨rfl, rfl, z10, rfl, ?_⟩)
        have e10 := e9a.trans (bnp_e hE10)
        refine ⟨by unfold hi; omega, fun q11 => ?_, fun q11 => ?_⟩
        · skip
          have e11a := e10.trans (if_pos q11)
          refine ⟨by unfold hi; omega, fun q12 => ?_, fun q12 => ?_⟩
          · skip
            have e12a := e11a.trans (if_pos q12)
            refine sf_29_1 (φ := φ) hI  (fun ψ13 hI13 hF13 hE13 => ⟨rfl, rfl, ?_⟩)
            have hG13 : Fr [53, 54, 55, 2004, 2005, 2006, 2007, 2008, 2009, 2010, 53003, 53004] φ ψ13 := fr_tr (fr_rf) hF13 (by decide)
            have e13 := e12a.trans (bnv_e hE13)
            refine hO (φ := ψ13) hI13  (fun z14 ψ14 hI14 hF14 hp14 hE14 => ⟨rfl, z14, rfl, ?_⟩)
            have hG14 : Fr [53, 54, 55, 2004, 2005, 2006, 2007, 2008, 2009, 2010, 53003, 53004] φ ψ14 := fr_tr hG13 hF14 (by decide)
            have e14 := e13.trans (bnd_e hE14)
            refine ⟨by unfold hi; omega, fun q15 => ?_, fun q15 => ?_⟩
            · skip
              have e15a := e14.trans (if_pos q15)
              refine ⟨by unfold hi; omega, fun q16 => ?_, fun q16 => ?_⟩
              · skip
                have e16a := e15a.trans (if_pos q16)
                exact ih ψ14 (jm_st1 (jm_st1 (jm_st1 L 6 (0, z10)) 4 (0, 1)) 5 (0, l5 + 1)) 1 (l5 + 1) (get_st1 (get_st1 (get_st1 g0 (by decide) (fun q => absurd q.1 (by decide))) (by decide) (fun q => absurd q.1 (by decide))) (by decide) (fun q => absurd q.1 (by decide))) (get_st1 (get_st1 (get_st1 g1 (by decide) (fun q => absurd q.1 (by decide))) (by decide) (fun q => absurd q.1 (by decide))) (by decide) (fun q => absurd q.1 (by decide))) (get_st1 (get_st1 (get_st1 g2 (by decide) (fun q => absurd q.1 (by decide))) (by decide) (fun q => absurd q.1 (by decide))) (by decide) (fun q => absurd q.1 (by decide))) (get_st1 (get_st1 (get_st1 g3 (by decide) (fun q => absurd q.1 (by decide))) (by decide) (fun q => tg0 q.2)) (by decide) (fun q => absurd q.1 (by decide))) (get_st1 get_st1e (by decide) (fun q => tg0 q.2)) get_st1e hI14 (by omega) (by omega) (by omega) (by omega) (by omega) (fun rr χ hIχ hFχ hpχ hEχ => hQ rr χ hIχ (fr_tr hG14 hFχ (by decide)) hpχ (e16a.trans hEχ))
              · skip
                have e16b := e15a.trans (if_neg q16)
                refine sf_149_52 (φ := ψ14) hI14 (by omega) (by omega) (by omega) (by omega) (by omega) (by omega) (fun z17 ψ17 hI17 hF17 hp17 hE17 => ⟨rfl, z17, rfl, ?_⟩)
                have hG17 : Fr [53, 54, 55, 2004, 2005, 2006, 2007, 2008, 2009, 2010, 53003, 53004] φ ψ17 := fr_tr hG14 hF17 (by decide)
                have e17 := e16b.trans (bnd_e hE17)
                exact ih ψ17 (jm_st1 (jm_st1 (jm_st1 L 6 (0, z10)) 4 (0, 1)) 5 (0, l5 + 1)) 1 (l5 + 1) (get_st1 (get_st1 (get_st1 g0 (by decide) (fun q => absurd q.1 (by decide))) (by decide) (fun q => absurd q.1 (by decide))) (by decide) (fun q => absurd q.1 (by decide))) (get_st1 (get_st1 (get_st1 g1 (by decide) (fun q => absurd q.1 (by decide))) (by decide) (fun q => absurd q.1 (by decide))) (by decide) (fun q => absurd q.1 (by decide))) (get_st1 (get_st1 (get_st1 g2 (by decide) (fun q => absurd q.1 (by decide))) (by decide) (fun q => absurd q.1 (by decide))) (by decide) (fun q => absurd q.1 (by decide))) (get_st1 (get_st1 (get_st1 g3 (by decide) (fun q => absurd q.1 (by decide))) (by decide) (fun q => tg0 q.2)) (by decide) (fun q => absurd q.1 (by decide))) (get_st1 get_st1e (by decide) (fun q => tg0 q.2)) get_st1e hI17 (by omega) (by omega) (by omega) (by omega) (by omega) (fun rr χ hIχ hFχ hpχ hEχ => hQ rr χ hIχ (fr_tr hG17 hFχ (by decide)) hpχ (e17.trans hEχ))
            · skip
              have e15b := e14.trans (if_neg q15)
              exact hQ 0 ψ14 hI14 hG14 ⟨by omega, by omega⟩ e15b
          · skip
            have e12b := e11a.trans (if_neg q12)
            refine ⟨by unfold hi; omega, fun q19 => ?_, fun q19 => ?_⟩
            · skip
              have e19a := e12b.trans (if_pos q19)
              refine sf_29_1 (φ := φ) hI  (fun ψ20 hI20 hF20 hE20 => ⟨rfl, rfl, ?_⟩)
              have hG20 : Fr [53, 54, 55, 2004, 2005, 2006, 2007, 2008, 2009, 2010, 53003, 53004] φ ψ20 := fr_tr (fr_rf) hF20 (by decide)
              have e20 := e19a.trans (bnv_e hE20)
              refine hO (φ := ψ20) hI20  (fun z21 ψ21 hI21 hF21 hp21 hE21 => ⟨rfl, z21, rfl, ?_⟩)
              have hG21 : Fr [53, 54, 55, 2004, 2005, 2006, 2007, 2008, 2009, 2010, 53003, 53004] φ ψ21 := fr_tr hG20 hF21 (by decide)
              have e21 := e20.trans (bnd_e hE21)
              refine ⟨by unfold hi; omega, fun q22 => ?_, fun q22 => ?_⟩
              · skip
                have e22a := e21.trans (if_pos q22)
                refine ⟨by unfold hi; omega, fun q23 => ?_, fun q23 => ?_⟩
                · skip
                  have e23a := e22a.trans (if_pos q23)
                  exact ih ψ21 (jm_st1 (jm_st1 (jm_st1 L 6 (0, z10)) 4 (0, 0)) 5 (0, l5 + 1)) 0 (l5 + 1) (get_st1 (get_st1 (get_st1 g0 (by decide) (fun q => absurd q.1 (by decide))) (by decide) (fun q => absurd q.1 (by decide))) (by decide) (fun q => absurd q.1 (by decide))) (get_st1 (get_st1 (get_st1 g1 (by decide) (fun q => absurd q.1 (by decide))) (by decide) (fun q => absurd q.1 (by decide))) (by decide) (fun q => absurd q.1 (by decide))) (get_st1 (get_st1 (get_st1 g2 (by decide) (fun q => absurd q.1 (by decide))) (by decide) (fun q => absurd q.1 (by decide))) (by decide) (fun q => absurd q.1 (by decide))) (get_st1 (get_st1 (get_st1 g3 (by decide) (fun q => absurd q.1 (by decide))) (by decide) (fun q => tg0 q.2)) (by decide) (fun q => absurd q.1 (by decide))) (get_st1 get_st1e (by decide) (fun q => tg0 q.2)) get_st1e hI21 (by omega) (by omega) (by omega) (by omega) (by omega) (fun rr χ hIχ hFχ hpχ hEχ => hQ rr χ hIχ (fr_tr hG21 hFχ (by decide)) hpχ (e23a.trans hEχ))
                · skip
                  have e23b := e22a.trans (if_neg q23)
                  refine sf_149_52 (φ := ψ21) hI21 (by omega) (by omega) (by omega) (by omega) (by omega) (by omega) (fun z24 ψ24 hI24 hF24 hp24 hE24 => ⟨rfl, z24, rfl, ?_⟩)
                  have hG24 : Fr [53, 54, 55, 2004, 2005, 2006, 2007, 2008, 2009, 2010, 53003, 53004] φ ψ24 := fr_tr hG21 hF24 (by decide)
                  have e24 := e23b.trans (bnd_e hE24)
                  exact ih ψ24 (jm_st1 (jm_st1 (jm_st1 L 6 (0, z10)) 4 (0, 0)) 5 (0, l5 + 1)) 0 (l5 + 1) (get_st1 (get_st1 (get_st1 g0 (by decide) (fun q => absurd q.1 (by decide))) (by decide) (fun q => absurd q.1 (by decide))) (by decide) (fun q => absurd q.1 (by decide))) (get_st1 (get_st1 (get_st1 g1 (by decide) (fun q => absurd q.1 (by decide))) (by decide) (fun q => absurd q.1 (by decide))) (by decide) (fun q => absurd q.1 (by decide))) (get_st1 (get_st1 (get_st1 g2 (by decide) (fun q => absurd q.1 (by decide))) (by decide) (fun q => absurd q.1 (by decide))) (by decide) (fun q => absurd q.1 (by decide))) (get_st1 (get_st1 (get_st1 g3 (by decide) (fun q => absurd q.1 (by decide))) (by decide) (fun q => tg0 q.2)) (by decide) (fun q => absurd q.1 (by decide))) (get_st1 get_st1e (by decide) (fun q => tg0 q.2)) get_st1e hI24 (by omega) (by omega) (by omega) (by omega) (by omega) (fun rr χ hIχ hFχ hpχ hEχ => hQ rr χ hIχ (fr_tr hG24 hFχ (by decide)) hpχ (e24.trans hEχ))
              · skip
                have e22b := e21.trans (if_neg q22)
                exact hQ 0 ψ21 hI21 hG21 ⟨by omega, by omega⟩ e22b
            · skip
              have e19b := e12b.trans (if_neg q19)
              refine sf_29_1 (φ := φ) hI  (fun ψ26 hI26 hF26 hE26 => ⟨rfl, rfl, ?_⟩)
              have hG26 : Fr [53, 54, 55, 2004, 2005, 2006, 2007, 2008, 2009, 2010, 53003, 53004] φ ψ26 := fr_tr (fr_rf) hF26 (by decide)
              have e26 := e19b.trans (bnv_e hE26)
              refine hO (φ := ψ26) hI26  (fun z27 ψ27 hI27 hF27 hp27 hE27 => ⟨rfl, z27, rfl, ?_⟩)
              have hG27 : Fr [53, 54, 55, 2004, 2005, 2006, 2007, 2008, 2009, 2010, 53003, 53004] φ ψ27 := fr_tr hG26 hF27 (by decide)
              have e27 := e26.trans (bnd_e hE27)
              refine ⟨by unfold hi; omega, fun q28 => ?_, fun q28 => ?_⟩
              · skip
                have e28a := e27.trans (if_pos q28)
                refine ⟨by unfold hi; omega, fun q29 => ?_, fun q29 => ?_⟩
                · skip
                  have e29a := e28a.trans (if_pos q29)
                  exact ih ψ27 (jm_st1 (jm_st1 (jm_st1 L 6 (0, z10)) 4 (0, 1)) 5 (0, l5 + 1)) 1 (l5 + 1) (get_st1 (get_st1 (get_st1 g0 (by decide) (fun q => absurd q.1 (by decide))) (by decide) (fun q => absurd q.1 (by decide))) (by decide) (fun q => absurd q.1 (by decide))) (get_st1 (get_st1 (get_st1 g1 (by decide) (fun q => absurd q.1 (by decide))) (by decide) (fun q => absurd q.1 (by decide))) (by decide) (fun q => absurd q.1 (by decide))) (get_st1 (get_st1 (get_st1 g2 (by decide) (fun q => absurd q.1 (by decide))) (by decide) (fun q => absurd q.1 (by decide))) (by decide) (fun q => absurd q.1 (by decide))) (get_st1 (get_st1 (get_st1 g3 (by decide) (fun q => absurd q.1 (by decide))) (by decide) (fun q => tg0 q.2)) (by decide) (fun q => absurd q.1 (by decide))) (get_st1 get_st1e (by decide) (fun q => tg0 q.2)) get_st1e hI27 (by omega) (by omega) (by omega) (by omega) (by omega) (fun rr χ hIχ hFχ hpχ hEχ => hQ rr χ hIχ (fr_tr hG27 hFχ (by decide)) hpχ (e29a.trans hEχ))
                · skip
                  have e29b := e28a.trans (if_neg q29)
                  refine sf_149_52 (φ := ψ27) hI27 (by omega) (by omega) (by omega) (by omega) (by omega) (by omega) (fun z30 ψ30 hI30 hF30 hp30 hE30 => ⟨rfl, z30, rfl, ?_⟩)
                  have hG30 : Fr [53, 54, 55, 2004, 2005, 2006, 2007, 2008, 2009, 2010, 53003, 53004] φ ψ30 := fr_tr hG27 hF30 (by decide)
                  have e30 := e29b.trans (bnd_e hE30)
                  exact ih ψ30 (jm_st1 (jm_st1 (jm_st1 L 6 (0, z10)) 4 (0, 1)) 5 (0, l5 + 1)) 1 (l5 + 1) (get_st1 (get_st1 (get_st1 g0 (by decide) (fun q => absurd q.1 (by decide))) (by decide) (fun q => absurd q.1 (by decide))) (by decide) (fun q => absurd q.1 (by decide))) (get_st1 (get_st1 (get_st1 g1 (by decide) (fun q => absurd q.1 (by decide))) (by decide) (fun q => absurd q.1 (by decide))) (by decide) (fun q => absurd q.1 (by decide))) (get_st1 (get_st1 (get_st1 g2 (by decide) (fun q => absurd q.1 (by decide))) (by decide) (fun q => absurd q.1 (by decide))) (by decide) (fun q => absurd q.1 (by decide))) (get_st1 (get_st1 (get_st1 g3 (by decide) (fun q => absurd q.1 (by decide))) (by decide) (fun q => tg0 q.2)) (by decide) (fun q => absurd q.1 (by decide))) (get_st1 get_st1e (by decide) (fun q => tg0 q.2)) get_st1e hI30 (by omega) (by omega) (by omega) (by omega) (by omega) (fun rr χ hIχ hFχ hpχ hEχ => hQ rr χ hIχ (fr_tr hG30 hFχ (by decide)) hpχ (e30.trans hEχ))
              · skip
                have e28b := e27.trans (if_neg q28)
                exact hQ 0 ψ27 hI27 hG27 ⟨by omega, by omega⟩ e28b
        · skip
          have e11b := e10.trans (if_neg q11)
          refine ⟨by unfold hi; omega, fun q32 => ?_, fun q32 => ?_⟩
          · skip
            have e32a := e11b.trans (if_pos q32)
            refine ⟨by unfold hi; omega, fun q33 => ?_, fun q33 => ?_⟩
            · skip
              have e33a := e32a.trans (if_pos q33)
              refine sf_29_1 (φ := φ) hI  (fun ψ34 hI34 hF34 hE34 => ⟨rfl, rfl, ?_⟩)
              have hG34 : Fr [53, 54, 55, 2004, 2005, 2006, 2007, 2008, 2009, 2010, 53003, 53004] φ ψ34 := fr_tr (fr_rf) hF34 (by decide)
              have e34 := e33a.trans (bnv_e hE34)
              refine hO (φ := ψ34) hI34  (fun z35 ψ35 hI35 hF35 hp35 hE35 => ⟨rfl, z35, rfl, ?_⟩)
              have hG35 : Fr [53, 54, 55, 2004, 2005, 2006, 2007, 2008, 2009, 2010, 53003, 53004] φ ψ35 := fr_tr hG34 hF35 (by decide)
              have e35 := e34.trans (bnd_e hE35)
              refine ⟨by unfold hi; omega, fun q36 => ?_, fun q36 => ?_⟩
              · skip
                have e36a := e35.trans (if_pos q36)
                refine ⟨by unfold hi; omega, fun q37 => ?_, fun q37 => ?_⟩
                · skip
                  have e37a := e36a.trans (if_pos q37)
                  exact ih ψ35 (jm_st1 (jm_st1 (jm_st1 L 6 (0, z10)) 4 (0, 1)) 5 (0, l5 + 1)) 1 (l5 + 1) (get_st1 (get_st1 (get_st1 g0 (by decide) (fun q => absurd q.1 (by decide))) (by decide) (fun q => absurd q.1 (by decide))) (by decide) (fun q => absurd q.1 (by decide))) (get_st1 (get_st1 (get_st1 g1 (by decide) (fun q => absurd q.1 (by decide))) (by decide) (fun q => absurd q.1 (by decide))) (by decide) (fun q => absurd q.1 (by decide))) (get_st1 (get_st1 (get_st1 g2 (by decide) (fun q => absurd q.1 (by decide))) (by decide) (fun q => absurd q.1 (by decide))) (by decide) (fun q => absurd q.1 (by decide))) (get_st1 (get_st1 (get_st1 g3 (by decide) (fun q => absurd q.1 (by decide))) (by decide) (fun q => tg0 q.2)) (by decide) (fun q => absurd q.1 (by decide))) (get_st1 get_st1e (by decide) (fun q => tg0 q.2)) get_st1e hI35 (by omega) (by omega) (by omega) (by omega) (by omega) (fun rr χ hIχ hFχ hpχ hEχ => hQ rr χ hIχ (fr_tr hG35 hFχ (by decide)) hpχ (e37a.trans hEχ))
                · skip
                  have e37b := e36a.trans (if_neg q37)
                  refine sf_149_52 (φ := ψ35) hI35 (by omega) (by omega) (by omega) (by omega) (by omega) (by omega) (fun z38 ψ38 hI38 hF38 hp38 hE38 => ⟨rfl, z38, rfl, ?_⟩)
                  have hG38 : Fr [53, 54, 55, 2004, 2005, 2006, 2007, 2008, 2009, 2010, 53003, 53004] φ ψ38 := fr_tr hG35 hF38 (by decide)
                  have e38 := e37b.trans (bnd_e hE38)
                  exact ih ψ38 (jm_st1 (jm_st1 (jm_st1 L 6 (0, z10)) 4 (0, 1)) 5 (0, l5 + 1)) 1 (l5 + 1) (get_st1 (get_st1 (get_st1 g0 (by decide) (fun q => absurd q.1 (by decide))) (by decide) (fun q => absurd q.1 (by decide))) (by decide) (fun q => absurd q.1 (by decide))) (get_st1 (get_st1 (get_st1 g1 (by decide) (fun q => absurd q.1 (by decide))) (by decide) (fun q => absurd q.1 (by decide))) (by decide) (fun q => absurd q.1 (by decide))) (get_st1 (get_st1 (get_st1 g2 (by decide) (fun q => absurd q.1 (by decide))) (by decide) (fun q => absurd q.1 (by decide))) (by decide) (fun q => absurd q.1 (by decide))) (get_st1 (get_st1 (get_st1 g3 (by decide) (fun q => absurd q.1 (by decide))) (by decide) (fun q => tg0 q.2)) (by decide) (fun q => absurd q.1 (by decide))) (get_st1 get_st1e (by decide) (fun q => tg0 q.2)) get_st1e hI38 (by omega) (by omega) (by omega) (by omega) (by omega) (fun rr χ hIχ hFχ hpχ hEχ => hQ rr χ hIχ (fr_tr hG38 hFχ (by decide)) hpχ (e38.trans hEχ))
              · skip
                have e36b := e35.trans (if_neg q36)
                exact hQ 0 ψ35 hI35 hG35 ⟨by omega, by omega⟩ e36b
            · skip
              have e33b := e32a.trans (if_neg q33)
              refine ⟨by unfold hi; omega, fun q40 => ?_, fun q40 => ?_⟩
              · skip
                have e40a := e33b.trans (if_pos q40)
                refine sf_29_1 (φ := φ) hI  (fun ψ41 hI41 hF41 hE41 => ⟨rfl, rfl, ?_⟩)
                have hG41 : Fr [53, 54, 55, 2004, 2005, 2006, 2007, 2008, 2009, 2010, 53003, 53004] φ ψ41 := fr_tr (fr_rf) hF41 (by decide)
                have e41 := e40a.trans (bnv_e hE41)
                refine hO (φ := ψ41) hI41  (fun z42 ψ42 hI42 hF42 hp42 hE42 => ⟨rfl, z42, rfl, ?_⟩)
                have hG42 : Fr [53, 54, 55, 2004, 2005, 2006, 2007, 2008, 2009, 2010, 53003, 53004] φ ψ42 := fr_tr hG41 hF42 (by decide)
                have e42 := e41.trans (bnd_e hE42)
                refine ⟨by unfold hi; omega, fun q43 => ?_, fun q43 => ?_⟩
                · skip
                  have e43a := e42.trans (if_pos q43)
                  refine ⟨by unfold hi; omega, fun q44 => ?_, fun q44 => ?_⟩
                  · skip
                    have e44a := e43a.trans (if_pos q44)
                    exact ih ψ42 (jm_st1 (jm_st1 (jm_st1 L 6 (0, z10)) 4 (0, 0)) 5 (0, l5 + 1)) 0 (l5 + 1) (get_st1 (get_st1 (get_st1 g0 (by decide) (fun q => absurd q.1 (by decide))) (by decide) (fun q => absurd q.1 (by decide))) (by decide) (fun q => absurd q.1 (by decide))) (get_st1 (get_st1 (get_st1 g1 (by decide) (fun q => absurd q.1 (by decide))) (by decide) (fun q => absurd q.1 (by decide))) (by decide) (fun q => absurd q.1 (by decide))) (get_st1 (get_st1 (get_st1 g2 (by decide) (fun q => absurd q.1 (by decide))) (by decide) (fun q => absurd q.1 (by decide))) (by decide) (fun q => absurd q.1 (by decide))) (get_st1 (get_st1 (get_st1 g3 (by decide) (fun q => absurd q.1 (by decide))) (by decide) (fun q => tg0 q.2)) (by decide) (fun q => absurd q.1 (by decide))) (get_st1 get_st1e (by decide) (fun q => tg0 q.2)) get_st1e hI42 (by omega) (by omega) (by omega) (by omega) (by omega) (fun rr χ hIχ hFχ hpχ hEχ => hQ rr χ hIχ (fr_tr hG42 hFχ (by decide)) hpχ (e44a.trans hEχ))
                  · skip
                    have e44b := e43a.trans (if_neg q44)
                    refine sf_149_52 (φ := ψ42) hI42 (by omega) (by omega) (by omega) (by omega) (by omega) (by omega) (fun z45 ψ45 hI45 hF45 hp45 hE45 => ⟨rfl, z45, rfl, ?_⟩)
                    have hG45 : Fr [53, 54, 55, 2004, 2005, 2006, 2007, 2008, 2009, 2010, 53003, 53004] φ ψ45 := fr_tr hG42 hF45 (by decide)
                    have e45 := e44b.trans (bnd_e hE45)
                    exact ih ψ45 (jm_st1 (jm_st1 (jm_st1 L 6 (0, z10)) 4 (0, 0)) 5 (0, l5 + 1)) 0 (l5 + 1) (get_st1 (get_st1 (get_st1 g0 (by decide) (fun q => absurd q.1 (by decide))) (by decide) (fun q => absurd q.1 (by decide))) (by decide) (fun q => absurd q.1 (by decide))) (get_st1 (get_st1 (get_st1 g1 (by decide) (fun q => absurd q.1 (by decide))) (by decide) (fun q => absurd q.1 (by decide))) (by decide) (fun q => absurd q.1 (by decide))) (get_st1 (get_st1 (get_st1 g2 (by decide) (fun q => absurd q.1 (by decide))) (by decide) (fun q => absurd q.1 (by decide))) (by decide) (fun q => absurd q.1 (by decide))) (get_st1 (get_st1 (get_st1 g3 (by decide) (fun q => absurd q.1 (by decide))) (by decide) (fun q => tg0 q.2)) (by decide) (fun q => absurd q.1 (by decide))) (get_st1 get_st1e (by decide) (fun q => tg0 q.2)) get_st1e hI45 (by omega) (by omega) (by omega) (by omega) (by omega) (fun rr χ hIχ hFχ hpχ hEχ => hQ rr χ hIχ (fr_tr hG45 hFχ (by decide)) hpχ (e45.trans hEχ))
                · skip
                  have e43b := e42.trans (if_neg q43)
                  exact hQ 0 ψ42 hI42 hG42 ⟨by omega, by omega⟩ e43b
              · skip
                have e40b := e33b.trans (if_neg q40)
                refine sf_29_1 (φ := φ) hI  (fun ψ47 hI47 hF47 hE47 => ⟨rfl, rfl, ?_⟩)
                have hG47 : Fr [53, 54, 55, 2004, 2005, 2006, 2007, 2008, 2009, 2010, 53003, 53004] φ ψ47 := fr_tr (fr_rf) hF47 (by decide)
                have e47 := e40b.trans (bnv_e hE47)
                refine hO (φ := ψ47) hI47  (fun z48 ψ48 hI48 hF48 hp48 hE48 => ⟨rfl, z48, rfl, ?_⟩)
                have hG48 : Fr [53, 54, 55, 2004, 2005, 2006, 2007, 2008, 2009, 2010, 53003, 53004] φ ψ48 := fr_tr hG47 hF48 (by decide)
                have e48 := e47.trans (bnd_e hE48)
                refine ⟨by unfold hi; omega, fun q49 => ?_, fun q49 => ?_⟩
                · skip
                  have e49a := e48.trans (if_pos q49)
                  refine ⟨by unfold hi; omega, fun q50 => ?_, fun q50 => ?_⟩
                  · skip
                    have e50a := e49a.trans (if_pos q50)
                    exact ih ψ48 (jm_st1 (jm_st1 (jm_st1 L 6 (0, z10)) 4 (0, 1)) 5 (0, l5 + 1)) 1 (l5 + 1) (get_st1 (get_st1 (get_st1 g0 (by decide) (fun q => absurd q.1 (by decide))) (by decide) (fun q => absurd q.1 (by decide))) (by decide) (fun q => absurd q.1 (by decide))) (get_st1 (get_st1 (get_st1 g1 (by decide) (fun q => absurd q.1 (by decide))) (by decide) (fun q => absurd q.1 (by decide))) (by decide) (fun q => absurd q.1 (by decide))) (get_st1 (get_st1 (get_st1 g2 (by decide) (fun q => absurd q.1 (by decide))) (by decide) (fun q => absurd q.1 (by decide))) (by decide) (fun q => absurd q.1 (by decide))) (get_st1 (get_st1 (get_st1 g3 (by decide) (fun q => absurd q.1 (by decide))) (by decide) (fun q => tg0 q.2)) (by decide) (fun q => absurd q.1 (by decide))) (get_st1 get_st1e (by decide) (fun q => tg0 q.2)) get_st1e hI48 (by omega) (by omega) (by omega) (by omega) (by omega) (fun rr χ hIχ hFχ hpχ hEχ => hQ rr χ hIχ (fr_tr hG48 hFχ (by decide)) hpχ (e50a.trans hEχ))
                  · skip
                    have e50b := e49a.trans (if_neg q50)
                    refine sf_149_52 (φ := ψ48) hI48 (by omega) (by omega) (by omega) (by omega) (by omega) (by omega) (fun z51 ψ51 hI51 hF51 hp51 hE51 => ⟨rfl, z51, rfl, ?_⟩)
                    have hG51 : Fr [53, 54, 55, 2004, 2005, 2006, 2007, 2008, 2009, 2010, 53003, 53004] φ ψ51 := fr_tr hG48 hF51 (by decide)
                    have e51 := e50b.trans (bnd_e hE51)
                    exact ih ψ51 (jm_st1 (jm_st1 (jm_st1 L 6 (0, z10)) 4 (0, 1)) 5 (0, l5 + 1)) 1 (l5 + 1) (get_st1 (get_st1 (get_st1 g0 (by decide) (fun q => absurd q.1 (by decide))) (by decide) (fun q => absurd q.1 (by decide))) (by decide) (fun q => absurd q.1 (by decide))) (get_st1 (get_st1 (get_st1 g1 (by decide) (fun q => absurd q.1 (by decide))) (by decide) (fun q => absurd q.1 (by decide))) (by decide) (fun q => absurd q.1 (by decide))) (get_st1 (get_st1 (get_st1 g2 (by decide) (fun q => absurd q.1 (by decide))) (by decide) (fun q => absurd q.1 (by decide))) (by decide) (fun q => absurd q.1 (by decide))) (get_st1 (get_st1 (get_st1 g3 (by decide) (fun q => absurd q.1 (by decide))) (by decide) (fun q => tg0 q.2)) (by decide) (fun q => absurd q.1 (by decide))) (get_st1 get_st1e (by decide) (fun q => tg0 q.2)) get_st1e hI51 (by omega) (by omega) (by omega) (by omega) (by omega) (fun rr χ hIχ hFχ hpχ hEχ => hQ rr χ hIχ (fr_tr hG51 hFχ (by decide)) hpχ (e51.trans hEχ))
                · skip
                  have e49b := e48.trans (if_neg q49)
                  exact hQ 0 ψ48 hI48 hG48 ⟨by omega, by omega⟩ e49b
          · skip
            have e32b := e11b.trans (if_neg q32)
            refine sf_149_52 (φ := φ) hI (by omega) (by omega) (by omega) (by omega) (by omega) (by omega) (fun z53 ψ53 hI53 hF53 hp53 hE53 => ⟨rfl, z53, rfl, ?_⟩)
            have hG53 : Fr [53, 54, 55, 2004, 2005, 2006, 2007, 2008, 2009, 2010, 53003, 53004] φ ψ53 := fr_tr (fr_rf) hF53 (by decide)
            have e53 := e32b.trans (bnd_e hE53)
            refine ⟨by unfold hi; omega, fun q54 => ?_, fun q54 => ?_⟩
            · skip
              have e54a := e53.trans (if_pos q54)
              refine sf_29_1 (φ := ψ53) hI53  (fun ψ55 hI55 hF55 hE55 => ⟨rfl, rfl, ?_⟩)
              have hG55 : Fr [53, 54, 55, 2004, 2005, 2006, 2007, 2008, 2009, 2010, 53003, 53004] φ ψ55 := fr_tr hG53 hF55 (by decide)
              have e55 := e54a.trans (bnv_e hE55)
              refine hO (φ := ψ55) hI55  (fun z56 ψ56 hI56 hF56 hp56 hE56 => ⟨rfl, z56, rfl, ?_⟩)
              have hG56 : Fr [53, 54, 55, 2004, 2005, 2006, 2007, 2008, 2009, 2010, 53003, 53004] φ ψ56 := fr_tr hG55 hF56 (by decide)
              have e56 := e55.trans (bnd_e hE56)
              refine ⟨by unfold hi; omega, fun q57 => ?_, fun q57 => ?_⟩
              · skip
                have e57a := e56.trans (if_pos q57)
                refine ⟨by unfold hi; omega, fun q58 => ?_, fun q58 => ?_⟩
                · skip
                  have e58a := e57a.trans (if_pos q58)
                  exact ih ψ56 (jm_st1 (jm_st1 (jm_st1 L 6 (0, z10)) 4 (0, 1)) 5 (0, l5 + 1)) 1 (l5 + 1) (get_st1 (get_st1 (get_st1 g0 (by decide) (fun q => absurd q.1 (by decide))) (by decide) (fun q => absurd q.1 (by decide))) (by decide) (fun q => absurd q.1 (by decide))) (get_st1 (get_st1 (get_st1 g1 (by decide) (fun q => absurd q.1 (by decide))) (by decide) (fun q => absurd q.1 (by decide))) (by decide) (fun q => absurd q.1 (by decide))) (get_st1 (get_st1 (get_st1 g2 (by decide) (fun q => absurd q.1 (by decide))) (by decide) (fun q => absurd q.1 (by decide))) (by decide) (fun q => absurd q.1 (by decide))) (get_st1 (get_st1 (get_st1 g3 (by decide) (fun q => absurd q.1 (by decide))) (by decide) (fun q => tg0 q.2)) (by decide) (fun q => absurd q.1 (by decide))) (get_st1 get_st1e (by decide) (fun q => tg0 q.2)) get_st1e hI56 (by omega) (by omega) (by omega) (by omega) (by omega) (fun rr χ hIχ hFχ hpχ hEχ => hQ rr χ hIχ (fr_tr hG56 hFχ (by decide)) hpχ (e58a.trans hEχ))
                · skip
                  have e58b := e57a.trans (if_neg q58)
                  refine sf_149_52 (φ := ψ56) hI56 (by omega) (by omega) (by omega) (by omega) (by omega) (by omega) (fun z59 ψ59 hI59 hF59 hp59 hE59 => ⟨rfl, z59, rfl, ?_⟩)
                  have hG59 : Fr [53, 54, 55, 2004, 2005, 2006, 2007, 2008, 2009, 2010, 53003, 53004] φ ψ59 := fr_tr hG56 hF59 (by decide)
                  have e59 := e58b.trans (bnd_e hE59)
                  exact ih ψ59 (jm_st1 (jm_st1 (jm_st1 L 6 (0, z10)) 4 (0, 1)) 5 (0, l5 + 1)) 1 (l5 + 1) (get_st1 (get_st1 (get_st1 g0 (by decide) (fun q => absurd q.1 (by decide))) (by decide) (fun q => absurd q.1 (by decide))) (by decide) (fun q => absurd q.1 (by decide))) (get_st1 (get_st1 (get_st1 g1 (by decide) (fun q => absurd q.1 (by decide))) (by decide) (fun q => absurd q.1 (by decide))) (by decide) (fun q => absurd q.1 (by decide))) (get_st1 (get_st1 (get_st1 g2 (by decide) (fun q => absurd q.1 (by decide))) (by decide) (fun q => absurd q.1 (by decide))) (by decide) (fun q => absurd q.1 (by decide))) (get_st1 (get_st1 (get_st1 g3 (by decide) (fun q => absurd q.1 (by decide))) (by decide) (fun q => tg0 q.2)) (by decide) (fun q => absurd q.1 (by decide))) (get_st1 get_st1e (by decide) (fun q => tg0 q.2)) get_st1e hI59 (by omega) (by omega) (by omega) (by omega) (by omega) (fun rr χ hIχ hFχ hpχ hEχ => hQ rr χ hIχ (fr_tr hG59 hFχ (by decide)) hpχ (e59.trans hEχ))
              · skip
                have e57b := e56.trans (if_neg q57)
                exact hQ 0 ψ56 hI56 hG56 ⟨by omega, by omega⟩ e57b
            · skip
              have e54b := e53.trans (if_neg q54)
              refine ⟨by unfold hi; omega, fun q61 => ?_, fun q61 => ?_⟩
              · skip
                have e61a := e54b.trans (if_pos q61)
                refine sf_29_1 (φ := ψ53) hI53  (fun ψ62 hI62 hF62 hE62 => ⟨rfl, rfl, ?_⟩)
                have hG62 : Fr [53, 54, 55, 2004, 2005, 2006, 2007, 2008, 2009, 2010, 53003, 53004] φ ψ62 := fr_tr hG53 hF62 (by decide)
                have e62 := e61a.trans (bnv_e hE62)
                refine hO (φ := ψ62) hI62  (fun z63 ψ63 hI63 hF63 hp63 hE63 => ⟨rfl, z63, rfl, ?_⟩)
                have hG63 : Fr [53, 54, 55, 2004, 2005, 2006, 2007, 2008, 2009, 2010, 53003, 53004] φ ψ63 := fr_tr hG62 hF63 (by decide)
                have e63 := e62.trans (bnd_e hE63)
                refine ⟨by unfold hi; omega, fun q64 => ?_, fun q64 => ?_⟩
                · skip
                  have e64a := e63.trans (if_pos q64)
                  refine ⟨by unfold hi; omega, fun q65 => ?_, fun q65 => ?_⟩
                  · skip
                    have e65a := e64a.trans (if_pos q65)
                    exact ih ψ63 (jm_st1 (jm_st1 (jm_st1 L 6 (0, z10)) 4 (0, 0)) 5 (0, l5 + 1)) 0 (l5 + 1) (get_st1 (get_st1 (get_st1 g0 (by decide) (fun q => absurd q.1 (by decide))) (by decide) (fun q => absurd q.1 (by decide))) (by decide) (fun q => absurd q.1 (by decide))) (get_st1 (get_st1 (get_st1 g1 (by decide) (fun q => absurd q.1 (by decide))) (by decide) (fun q => absurd q.1 (by decide))) (by decide) (fun q => absurd q.1 (by decide))) (get_st1 (get_st1 (get_st1 g2 (by decide) (fun q => absurd q.1 (by decide))) (by decide) (fun q => absurd q.1 (by decide))) (by decide) (fun q => absurd q.1 (by decide))) (get_st1 (get_st1 (get_st1 g3 (by decide) (fun q => absurd q.1 (by decide))) (by decide) (fun q => tg0 q.2)) (by decide) (fun q => absurd q.1 (by decide))) (get_st1 get_st1e (by decide) (fun q => tg0 q.2)) get_st1e hI63 (by omega) (by omega) (by omega) (by omega) (by omega) (fun rr χ hIχ hFχ hpχ hEχ => hQ rr χ hIχ (fr_tr hG63 hFχ (by decide)) hpχ (e65a.trans hEχ))
                  · skip
                    have e65b := e64a.trans (if_neg q65)
                    refine sf_149_52 (φ := ψ63) hI63 (by omega) (by omega) (by omega) (by omega) (by omega) (by omega) (fun z66 ψ66 hI66 hF66 hp66 hE66 => ⟨rfl, z66, rfl, ?_⟩)
                    have hG66 : Fr [53, 54, 55, 2004, 2005, 2006, 2007, 2008, 2009, 2010, 53003, 53004] φ ψ66 := fr_tr hG63 hF66 (by decide)
                    have e66 := e65b.trans (bnd_e hE66)
                    exact ih ψ66 (jm_st1 (jm_st1 (jm_st1 L 6 (0, z10)) 4 (0, 0)) 5 (0, l5 + 1)) 0 (l5 + 1) (get_st1 (get_st1 (get_st1 g0 (by decide) (fun q => absurd q.1 (by decide))) (by decide) (fun q => absurd q.1 (by decide))) (by decide) (fun q => absurd q.1 (by decide))) (get_st1 (get_st1 (get_st1 g1 (by decide) (fun q => absurd q.1 (by decide))) (by decide) (fun q => absurd q.1 (by decide))) (by decide) (fun q => absurd q.1 (by decide))) (get_st1 (get_st1 (get_st1 g2 (by decide) (fun q => absurd q.1 (by decide))) (by decide) (fun q => absurd q.1 (by decide))) (by decide) (fun q => absurd q.1 (by decide))) (get_st1 (get_st1 (get_st1 g3 (by decide) (fun q => absurd q.1 (by decide))) (by decide) (fun q => tg0 q.2)) (by decide) (fun q => absurd q.1 (by decide))) (get_st1 get_st1e (by decide) (fun q => tg0 q.2)) get_st1e hI66 (by omega) (by omega) (by omega) (by omega) (by omega) (fun rr χ hIχ hFχ hpχ hEχ => hQ rr χ hIχ (fr_tr hG66 hFχ (by decide)) hpχ (e66.trans hEχ))
                · skip
                  have e64b := e63.trans (if_neg q64)
                  exact hQ 0 ψ63 hI63 hG63 ⟨by omega, by omega⟩ e64b
              · skip
                have e61b := e54b.trans (if_neg q61)
                refine sf_29_1 (φ := ψ53) hI53  (fun ψ68 hI68 hF68 hE68 => ⟨rfl, rfl, ?_⟩)
                have hG68 : Fr [53, 54, 55, 2004, 2005, 2006, 2007, 2008, 2009, 2010, 53003, 53004] φ ψ68 := fr_tr hG53 hF68 (by decide)
                have e68 := e61b.trans (bnv_e hE68)
                refine hO (φ := ψ68) hI68  (fun z69 ψ69 hI69 hF69 hp69 hE69 => ⟨rfl, z69, rfl, ?_⟩)
                have hG69 : Fr [53, 54, 55, 2004, 2005, 2006, 2007, 2008, 2009, 2010, 53003, 53004] φ ψ69 := fr_tr hG68 hF69 (by decide)
                have e69 := e68.trans (bnd_e hE69)
                refine ⟨by unfold hi; omega, fun q70 => ?_, fun q70 => ?_⟩
                · skip
                  have e70a := e69.trans (if_pos q70)
                  refine ⟨by unfold hi; omega, fun q71 => ?_, fun q71 => ?_⟩
                  · skip
                    have e71a := e70a.trans (if_pos q71)
                    exact ih ψ69 (jm_st1 (jm_st1 (jm_st1 L 6 (0, z10)) 4 (0, 1)) 5 (0, l5 + 1)) 1 (l5 + 1) (get_st1 (get_st1 (get_st1 g0 (by decide) (fun q => absurd q.1 (by decide))) (by decide) (fun q => absurd q.1 (by decide))) (by decide) (fun q => absurd q.1 (by decide))) (get_st1 (get_st1 (get_st1 g1 (by decide) (fun q => absurd q.1 (by decide))) (by decide) (fun q => absurd q.1 (by decide))) (by decide) (fun q => absurd q.1 (by decide))) (get_st1 (get_st1 (get_st1 g2 (by decide) (fun q => absurd q.1 (by decide))) (by decide) (fun q => absurd q.1 (by decide))) (by decide) (fun q => absurd q.1 (by decide))) (get_st1 (get_st1 (get_st1 g3 (by decide) (fun q => absurd q.1 (by decide))) (by decide) (fun q => tg0 q.2)) (by decide) (fun q => absurd q.1 (by decide))) (get_st1 get_st1e (by decide) (fun q => tg0 q.2)) get_st1e hI69 (by omega) (by omega) (by omega) (by omega) (by omega) (fun rr χ hIχ hFχ hpχ hEχ => hQ rr χ hIχ (fr_tr hG69 hFχ (by decide)) hpχ (e71a.trans hEχ))
                  · skip
                    have e71b := e70a.trans (if_neg q71)
                    refine sf_149_52 (φ := ψ69) hI69 (by omega) (by omega) (by omega) (by omega) (by omega) (by omega) (fun z72 ψ72 hI72 hF72 hp72 hE72 => ⟨rfl, z72, rfl, ?_⟩)
                    have hG72 : Fr [53, 54, 55, 2004, 2005, 2006, 2007, 2008, 2009, 2010, 53003, 53004] φ ψ72 := fr_tr hG69 hF72 (by decide)
                    have e72 := e71b.trans (bnd_e hE72)
                    exact ih ψ72 (jm_st1 (jm_st1 (jm_st1 L 6 (0, z10)) 4 (0, 1)) 5 (0, l5 + 1)) 1 (l5 + 1) (get_st1 (get_st1 (get_st1 g0 (by decide) (fun q => absurd q.1 (by decide))) (by decide) (fun q => absurd q.1 (by decide))) (by decide) (fun q => absurd q.1 (by decide))) (get_st1 (get_st1 (get_st1 g1 (by decide) (fun q => absurd q.1 (by decide))) (by decide) (fun q => absurd q.1 (by decide))) (by decide) (fun q => absurd q.1 (by decide))) (get_st1 (get_st1 (get_st1 g2 (by decide) (fun q => absurd q.1 (by decide))) (by decide) (fun q => absurd q.1 (by decide))) (by decide) (fun q => absurd q.1 (by decide))) (get_st1 (get_st1 (get_st1 g3 (by decide) (fun q => absurd q.1 (by decide))) (by decide) (fun q => tg0 q.2)) (by decide) (fun q => absurd q.1 (by decide))) (get_st1 get_st1e (by decide) (fun q => tg0 q.2)) get_st1e hI72 (by omega) (by omega) (by omega) (by omega) (by omega) (fun rr χ hIχ hFχ hpχ hEχ => hQ rr χ hIχ (fr_tr hG72 hFχ (by decide)) hpχ (e72.trans hEχ))
                · skip
                  have e70b := e69.trans (if_neg q70)
                  exact hQ 0 ψ69 hI69 hG69 ⟨by omega, by omega⟩ e70b
      · skip
        have e9b := e8.trans (if_neg q9)
        refine sf_135_1 (φ := φ) hI (by omega) (by omega) (fun z74 hp74 hE74 => ⟨rfl, rfl, z74, rfl, ?_⟩)
        have e74 := e9b.trans (bnp_e hE74)
        refine ⟨by unfold hi; omega, fun q75 => ?_, fun q75 => ?_⟩
        · skip
          have e75a := e74.trans (if_pos q75)
          refine ⟨by unfold hi; omega, fun q76 => ?_, fun q76 => ?_⟩
          · skip
            have e76a := e75a.trans (if_pos q76)
            exact hQ 1 φ hI (fr_rf) ⟨by omega, by omega⟩ e76a
          · skip
            have e76b := e75a.trans (if_neg q76)
            refine sf_149_52 (φ := φ) hI (by omega) (by omega) (by omega) (by omega) (by omega) (by omega) (fun z78 ψ78 hI78 hF78 hp78 hE78 => ⟨rfl, z78, rfl, ?_⟩)
            have hG78 : Fr [53, 54, 55, 2004, 2005, 2006, 2007, 2008, 2009, 2010, 53003, 53004] φ ψ78 := fr_tr (fr_rf) hF78 (by decide)
            have e78 := e76b.trans (bnd_e hE78)
            refine ⟨by unfold hi; omega, fun q79 => ?_, fun q79 => ?_⟩
            · skip
              have e79a := e78.trans (if_pos q79)
              exact hQ 0 ψ78 hI78 hG78 ⟨by omega, by omega⟩ e79a
            · skip
              have e79b := e78.trans (if_neg q79)
              exact hQ 1 ψ78 hI78 hG78 ⟨by omega, by omega⟩ e79b
        · skip
          have e75b := e74.trans (if_neg q75)
          refine sf_135_1 (φ := φ) hI (by omega) (by omega) (fun z82 hp82 hE82 => ⟨rfl, rfl, z82, rfl, ?_⟩)
          have e82 := e75b.trans (bnp_e hE82)
          refine ⟨by unfold hi; omega, fun q83 => ?_, fun q83 => ?_⟩
          · skip
            have e83a := e82.trans (if_pos q83)
            refine ⟨by unfold hi; omega, fun q84 => ?_, fun q84 => ?_⟩
            · skip
              have e84a := e83a.trans (if_pos q84)
              refine sf_29_1 (φ := φ) hI  (fun ψ85 hI85 hF85 hE85 => ⟨rfl, rfl, ?_⟩)
              have hG85 : Fr [53, 54, 55, 2004, 2005, 2006, 2007, 2008, 2009, 2010, 53003, 53004] φ ψ85 := fr_tr (fr_rf) hF85 (by decide)
              have e85 := e84a.trans (bnv_e hE85)
              refine hO (φ := ψ85) hI85  (fun z86 ψ86 hI86 hF86 hp86 hE86 => ⟨rfl, z86, rfl, ?_⟩)
              have hG86 : Fr [53, 54, 55, 2004, 2005, 2006, 2007, 2008, 2009, 2010, 53003, 53004] φ ψ86 := fr_tr hG85 hF86 (by decide)
              have e86 := e85.trans (bnd_e hE86)
              refine ⟨by unfold hi; omega, fun q87 => ?_, fun q87 => ?_⟩
              · skip
                have e87a := e86.trans (if_pos q87)
                refine ⟨by unfold hi; omega, fun q88 => ?_, fun q88 => ?_⟩
                · skip
                  have e88a := e87a.trans (if_pos q88)
                  exact ih ψ86 (jm_st1 (jm_st1 (jm_st1 L 6 (0, z82)) 4 (0, 1)) 5 (0, l5 + 1)) 1 (l5 + 1) (get_st1 (get_st1 (get_st1 g0 (by decide) (fun q => absurd q.1 (by decide))) (by decide) (fun q => absurd q.1 (by decide))) (by decide) (fun q => absurd q.1 (by decide))) (get_st1 (get_st1 (get_st1 g1 (by decide) (fun q => absurd q.1 (by decide))) (by decide) (fun q => absurd q.1 (by decide))) (by decide) (fun q => absurd q.1 (by decide))) (get_st1 (get_st1 (get_st1 g2 (by decide) (fun q => absurd q.1 (by decide))) (by decide) (fun q => absurd q.1 (by decide))) (by decide) (fun q => absurd q.1 (by decide))) (get_st1 (get_st1 (get_st1 g3 (by decide) (fun q => absurd q.1 (by decide))) (by decide) (fun q => tg0 q.2)) (by decide) (fun q => absurd q.1 (by decide))) (get_st1 get_st1e (by decide) (fun q => tg0 q.2)) get_st1e hI86 (by omega) (by omega) (by omega) (by omega) (by omega) (fun rr χ hIχ hFχ hpχ hEχ => hQ rr χ hIχ (fr_tr hG86 hFχ (by decide)) hpχ (e88a.trans hEχ))
                · skip
                  have e88b := e87a.trans (if_neg q88)
                  refine sf_149_52 (φ := ψ86) hI86 (by omega) (by omega) (by omega) (by omega) (by omega) (by omega) (fun z89 ψ89 hI89 hF89 hp89 hE89 => ⟨rfl, z89, rfl, ?_⟩)
                  have hG89 : Fr [53, 54, 55, 2004, 2005, 2006, 2007, 2008, 2009, 2010, 53003, 53004] φ ψ89 := fr_tr hG86 hF89 (by decide)
                  have e89 := e88b.trans (bnd_e hE89)
                  exact ih ψ89 (jm_st1 (jm_st1 (jm_st1 L 6 (0, z82)) 4 (0, 1)) 5 (0, l5 + 1)) 1 (l5 + 1) (get_st1 (get_st1 (get_st1 g0 (by decide) (fun q => absurd q.1 (by decide))) (by decide) (fun q => absurd q.1 (by decide))) (by decide) (fun q => absurd q.1 (by decide))) (get_st1 (get_st1 (get_st1 g1 (by decide) (fun q => absurd q.1 (by decide))) (by decide) (fun q => absurd q.1 (by decide))) (by decide) (fun q => absurd q.1 (by decide))) (get_st1 (get_st1 (get_st1 g2 (by decide) (fun q => absurd q.1 (by decide))) (by decide) (fun q => absurd q.1 (by decide))) (by decide) (fun q => absurd q.1 (by decide))) (get_st1 (get_st1 (get_st1 g3 (by decide) (fun q => absurd q.1 (by decide))) (by decide) (fun q => tg0 q.2)) (by decide) (fun q => absurd q.1 (by decide))) (get_st1 get_st1e (by decide) (fun q => tg0 q.2)) get_st1e hI89 (by omega) (by omega) (by omega) (by omega) (by omega) (fun rr χ hIχ hFχ hpχ hEχ => hQ rr χ hIχ (fr_tr hG89 hFχ (by decide)) hpχ (e89.trans hEχ))
              · skip
                have e87b := e86.trans (if_neg q87)
                exact hQ 0 ψ86 hI86 hG86 ⟨by omega, by omega⟩ e87b
            · skip
              have e84b := e83a.trans (if_neg q84)
              refine ⟨by unfold hi; omega, fun q91 => ?_, fun q91 => ?_⟩
              · skip
                have e91a := e84b.trans (if_pos q91)
                refine sf_29_1 (φ := φ) hI  (fun ψ92 hI92 hF92 hE92 => ⟨rfl, rfl, ?_⟩)
                have hG92 : Fr [53, 54, 55, 2004, 2005, 2006, 2007, 2008, 2009, 2010, 53003, 53004] φ ψ92 := fr_tr (fr_rf) hF92 (by decide)
                have e92 := e91a.trans (bnv_e hE92)
                refine hO (φ := ψ92) hI92  (fun z93 ψ93 hI93 hF93 hp93 hE93 => ⟨rfl, z93, rfl, ?_⟩)
                have hG93 : Fr [53, 54, 55, 2004, 2005, 2006, 2007, 2008, 2009, 2010, 53003, 53004] φ ψ93 := fr_tr hG92 hF93 (by decide)
                have e93 := e92.trans (bnd_e hE93)
                refine ⟨by unfold hi; omega, fun q94 => ?_, fun q94 => ?_⟩
                · skip
                  have e94a := e93.trans (if_pos q94)
                  refine ⟨by unfold hi; omega, fun q95 => ?_, fun q95 => ?_⟩
                  · skip
                    have e95a := e94a.trans (if_pos q95)
                    exact ih ψ93 (jm_st1 (jm_st1 (jm_st1 L 6 (0, z82)) 4 (0, 0)) 5 (0, l5 + 1)) 0 (l5 + 1) (get_st1 (get_st1 (get_st1 g0 (by decide) (fun q => absurd q.1 (by decide))) (by decide) (fun q => absurd q.1 (by decide))) (by decide) (fun q => absurd q.1 (by decide))) (get_st1 (get_st1 (get_st1 g1 (by decide) (fun q => absurd q.1 (by decide))) (by decide) (fun q => absurd q.1 (by decide))) (by decide) (fun q => absurd q.1 (by decide))) (get_st1 (get_st1 (get_st1 g2 (by decide) (fun q => absurd q.1 (by decide))) (by decide) (fun q => absurd q.1 (by decide))) (by decide) (fun q => absurd q.1 (by decide))) (get_st1 (get_st1 (get_st1 g3 (by decide) (fun q => absurd q.1 (by decide))) (by decide) (fun q => tg0 q.2)) (by decide) (fun q => absurd q.1 (by decide))) (get_st1 get_st1e (by decide) (fun q => tg0 q.2)) get_st1e hI93 (by omega) (by omega) (by omega) (by omega) (by omega) (fun rr χ hIχ hFχ hpχ hEχ => hQ rr χ hIχ (fr_tr hG93 hFχ (by decide)) hpχ (e95a.trans hEχ))
                  · skip
                    have e95b := e94a.trans (if_neg q95)
                    refine sf_149_52 (φ := ψ93) hI93 (by omega) (by omega) (by omega) (by omega) (by omega) (by omega) (fun z96 ψ96 hI96 hF96 hp96 hE96 => ⟨rfl, z96, rfl, ?_⟩)
                    have hG96 : Fr [53, 54, 55, 2004, 2005, 2006, 2007, 2008, 2009, 2010, 53003, 53004] φ ψ96 := fr_tr hG93 hF96 (by decide)
                    have e96 := e95b.trans (bnd_e hE96)
                    exact ih ψ96 (jm_st1 (jm_st1 (jm_st1 L 6 (0, z82)) 4 (0, 0)) 5 (0, l5 + 1)) 0 (l5 + 1) (get_st1 (get_st1 (get_st1 g0 (by decide) (fun q => absurd q.1 (by decide))) (by decide) (fun q => absurd q.1 (by decide))) (by decide) (fun q => absurd q.1 (by decide))) (get_st1 (get_st1 (get_st1 g1 (by decide) (fun q => absurd q.1 (by decide))) (by decide) (fun q => absurd q.1 (by decide))) (by decide) (fun q => absurd q.1 (by decide))) (get_st1 (get_st1 (get_st1 g2 (by decide) (fun q => absurd q.1 (by decide))) (by decide) (fun q => absurd q.1 (by decide))) (by decide) (fun q => absurd q.1 (by decide))) (get_st1 (get_st1 (get_st1 g3 (by decide) (fun q => absurd q.1 (by decide))) (by decide) (fun q => tg0 q.2)) (by decide) (fun q => absurd q.1 (by decide))) (get_st1 get_st1e (by decide) (fun q => tg0 q.2)) get_st1e hI96 (by omega) (by omega) (by omega) (by omega) (by omega) (fun rr χ hIχ hFχ hpχ hEχ => hQ rr χ hIχ (fr_tr hG96 hFχ (by decide)) hpχ (e96.trans hEχ))
                · skip
                  have e94b := e93.trans (if_neg q94)
                  exact hQ 0 ψ93 hI93 hG93 ⟨by omega, by omega⟩ e94b
              · skip
                have e91b := e84b.trans (if_neg q91)
                refine sf_29_1 (φ := φ) hI  (fun ψ98 hI98 hF98 hE98 => ⟨rfl, rfl, ?_⟩)
                have hG98 : Fr [53, 54, 55, 2004, 2005, 2006, 2007, 2008, 2009, 2010, 53003, 53004] φ ψ98 := fr_tr (fr_rf) hF98 (by decide)
                have e98 := e91b.trans (bnv_e hE98)
                refine hO (φ := ψ98) hI98  (fun z99 ψ99 hI99 hF99 hp99 hE99 => ⟨rfl, z99, rfl, ?_⟩)
                have hG99 : Fr [53, 54, 55, 2004, 2005, 2006, 2007, 2008, 2009, 2010, 53003, 53004] φ ψ99 := fr_tr hG98 hF99 (by decide)
                have e99 := e98.trans (bnd_e hE99)
                refine ⟨by unfold hi; omega, fun q100 => ?_, fun q100 => ?_⟩
                · skip
                  have e100a := e99.trans (if_pos q100)
                  refine ⟨by unfold hi; omega, fun q101 => ?_, fun q101 => ?_⟩
                  · skip
                    have e101a := e100a.trans (if_pos q101)
                    exact ih ψ99 (jm_st1 (jm_st1 (jm_st1 L 6 (0, z82)) 4 (0, 1)) 5 (0, l5 + 1)) 1 (l5 + 1) (get_st1 (get_st1 (get_st1 g0 (by decide) (fun q => absurd q.1 (by decide))) (by decide) (fun q => absurd q.1 (by decide))) (by decide) (fun q => absurd q.1 (by decide))) (get_st1 (get_st1 (get_st1 g1 (by decide) (fun q => absurd q.1 (by decide))) (by decide) (fun q => absurd q.1 (by decide))) (by decide) (fun q => absurd q.1 (by decide))) (get_st1 (get_st1 (get_st1 g2 (by decide) (fun q => absurd q.1 (by decide))) (by decide) (fun q => absurd q.1 (by decide))) (by decide) (fun q => absurd q.1 (by decide))) (get_st1 (get_st1 (get_st1 g3 (by decide) (fun q => absurd q.1 (by decide))) (by decide) (fun q => tg0 q.2)) (by decide) (fun q => absurd q.1 (by decide))) (get_st1 get_st1e (by decide) (fun q => tg0 q.2)) get_st1e hI99 (by omega) (by omega) (by omega) (by omega) (by omega) (fun rr χ hIχ hFχ hpχ hEχ => hQ rr χ hIχ (fr_tr hG99 hFχ (by decide)) hpχ (e101a.trans hEχ))
                  · skip
                    have e101b := e100a.trans (if_neg q101)
                    refine sf_149_52 (φ := ψ99) hI99 (by omega) (by omega) (by omega) (by omega) (by omega) (by omega) (fun z102 ψ102 hI102 hF102 hp102 hE102 => ⟨rfl, z102, rfl, ?_⟩)
                    have hG102 : Fr [53, 54, 55, 2004, 2005, 2006, 2007, 2008, 2009, 2010, 53003, 53004] φ ψ102 := fr_tr hG99 hF102 (by decide)
                    have e102 := e101b.trans (bnd_e hE102)
                    exact ih ψ102 (jm_st1 (jm_st1 (jm_st1 L 6 (0, z82)) 4 (0, 1)) 5 (0, l5 + 1)) 1 (l5 + 1) (get_st1 (get_st1 (get_st1 g0 (by decide) (fun q => absurd q.1 (by decide))) (by decide) (fun q => absurd q.1 (by decide))) (by decide) (fun q => absurd q.1 (by decide))) (get_st1 (get_st1 (get_st1 g1 (by decide) (fun q => absurd q.1 (by decide))) (by decide) (fun q => absurd q.1 (by decide))) (by decide) (fun q => absurd q.1 (by decide))) (get_st1 (get_st1 (get_st1 g2 (by decide) (fun q => absurd q.1 (by decide))) (by decide) (fun q => absurd q.1 (by decide))) (by decide) (fun q => absurd q.1 (by decide))) (get_st1 (get_st1 (get_st1 g3 (by decide) (fun q => absurd q.1 (by decide))) (by decide) (fun q => tg0 q.2)) (by decide) (fun q => absurd q.1 (by decide))) (get_st1 get_st1e (by decide) (fun q => tg0 q.2)) get_st1e hI102 (by omega) (by omega) (by omega) (by omega) (by omega) (fun rr χ hIχ hFχ hpχ hEχ => hQ rr χ hIχ (fr_tr hG102 hFχ (by decide)) hpχ (e102.trans hEχ))
                · skip
                  have e100b := e99.trans (if_neg q100)
                  exact hQ 0 ψ99 hI99 hG99 ⟨by omega, by omega⟩ e100b
          · skip
            have e83b := e82.trans (if_neg q83)
            refine ⟨by unfold hi; omega, fun q104 => ?_, fun q104 => ?_⟩
            · skip
              have e104a := e83b.trans (if_pos q104)
              refine ⟨by unfold hi; omega, fun q105 => ?_, fun q105 => ?_⟩
              · skip
                have e105a := e104a.trans (if_pos q105)
                refine sf_29_1 (φ := φ) hI  (fun ψ106 hI106 hF106 hE106 => ⟨rfl, rfl, ?_⟩)
                have hG106 : Fr [53, 54, 55, 2004, 2005, 2006, 2007, 2008, 2009, 2010, 53003, 53004] φ ψ106 := fr_tr (fr_rf) hF106 (by decide)
                have e106 := e105a.trans (bnv_e hE106)
                refine hO (φ := ψ106) hI106  (fun z107 ψ107 hI107 hF107 hp107 hE107 => ⟨rfl, z107, rfl, ?_⟩)
                have hG107 : Fr [53, 54, 55, 2004, 2005, 2006, 2007, 2008, 2009, 2010, 53003, 53004] φ ψ107 := fr_tr hG106 hF107 (by decide)
                have e107 := e106.trans (bnd_e hE107)
                refine ⟨by unfold hi; omega, fun q108 => ?_, fun q108 => ?_⟩
                · skip
                  have e108a := e107.trans (if_pos q108)
                  refine ⟨by unfold hi; omega, fun q109 => ?_, fun q109 => ?_⟩
                  · skip
                    have e109a := e108a.trans (if_pos q109)
                    exact ih ψ107 (jm_st1 (jm_st1 (jm_st1 L 6 (0, z82)) 4 (0, 1)) 5 (0, l5 + 1)) 1 (l5 + 1) (get_st1 (get_st1 (get_st1 g0 (by decide) (fun q => absurd q.1 (by decide))) (by decide) (fun q => absurd q.1 (by decide))) (by decide) (fun q => absurd q.1 (by decide))) (get_st1 (get_st1 (get_st1 g1 (by decide) (fun q => absurd q.1 (by decide))) (by decide) (fun q => absurd q.1 (by decide))) (by decide) (fun q => absurd q.1 (by decide))) (get_st1 (get_st1 (get_st1 g2 (by decide) (fun q => absurd q.1 (by decide))) (by decide) (fun q => absurd q.1 (by decide))) (by decide) (fun q => absurd q.1 (by decide))) (get_st1 (get_st1 (get_st1 g3 (by decide) (fun q => absurd q.1 (by decide))) (by decide) (fun q => tg0 q.2)) (by decide) (fun q => absurd q.1 (by decide))) (get_st1 get_st1e (by decide) (fun q => tg0 q.2)) get_st1e hI107 (by omega) (by omega) (by omega) (by omega) (by omega) (fun rr χ hIχ hFχ hpχ hEχ => hQ rr χ hIχ (fr_tr hG107 hFχ (by decide)) hpχ (e109a.trans hEχ))
                  · skip
                    have e109b := e108a.trans (if_neg q109)
                    refine sf_149_52 (φ := ψ107) hI107 (by omega) (by omega) (by omega) (by omega) (by omega) (by omega) (fun z110 ψ110 hI110 hF110 hp110 hE110 => ⟨rfl, z110, rfl, ?_⟩)
                    have hG110 : Fr [53, 54, 55, 2004, 2005, 2006, 2007, 2008, 2009, 2010, 53003, 53004] φ ψ110 := fr_tr hG107 hF110 (by decide)
                    have e110 := e109b.trans (bnd_e hE110)
                    exact ih ψ110 (jm_st1 (jm_st1 (jm_st1 L 6 (0, z82)) 4 (0, 1)) 5 (0, l5 + 1)) 1 (l5 + 1) (get_st1 (get_st1 (get_st1 g0 (by decide) (fun q => absurd q.1 (by decide))) (by decide) (fun q => absurd q.1 (by decide))) (by decide) (fun q => absurd q.1 (by decide))) (get_st1 (get_st1 (get_st1 g1 (by decide) (fun q => absurd q.1 (by decide))) (by decide) (fun q => absurd q.1 (by decide))) (by decide) (fun q => absurd q.1 (by decide))) (get_st1 (get_st1 (get_st1 g2 (by decide) (fun q => absurd q.1 (by decide))) (by decide) (fun q => absurd q.1 (by decide))) (by decide) (fun q => absurd q.1 (by decide))) (get_st1 (get_st1 (get_st1 g3 (by decide) (fun q => absurd q.1 (by decide))) (by decide) (fun q => tg0 q.2)) (by decide) (fun q => absurd q.1 (by decide))) (get_st1 get_st1e (by decide) (fun q => tg0 q.2)) get_st1e hI110 (by omega) (by omega) (by omega) (by omega) (by omega) (fun rr χ hIχ hFχ hpχ hEχ => hQ rr χ hIχ (fr_tr hG110 hFχ (by decide)) hpχ (e110.trans hEχ))
                · skip
                  have e108b := e107.trans (if_neg q108)
                  exact hQ 0 ψ107 hI107 hG107 ⟨by omega, by omega⟩ e108b
              · skip
                have e105b := e104a.trans (if_neg q105)
                refine ⟨by unfold hi; omega, fun q112 => ?_, fun q112 => ?_⟩
                · skip
                  have e112a := e105b.trans (if_pos q112)
                  refine sf_29_1 (φ := φ) hI  (fun ψ113 hI113 hF113 hE113 => ⟨rfl, rfl, ?_⟩)
                  have hG113 : Fr [53, 54, 55, 2004, 2005, 2006, 2007, 2008, 2009, 2010, 53003, 53004] φ ψ113 := fr_tr (fr_rf) hF113 (by decide)
                  have e113 := e112a.trans (bnv_e hE113)
                  refine hO (φ := ψ113) hI113  (fun z114 ψ114 hI114 hF114 hp114 hE114 => ⟨rfl, z114, rfl, ?_⟩)
                  have hG114 : Fr [53, 54, 55, 2004, 2005, 2006, 2007, 2008, 2009, 2010, 53003, 53004] φ ψ114 := fr_tr hG113 hF114 (by decide)
                  have e114 := e113.trans (bnd_e hE114)
                  refine ⟨by unfold hi; omega, fun q115 => ?_, fun q115 => ?_⟩
                  · skip
                    have e115a := e114.trans (if_pos q115)
                    refine ⟨by unfold hi; omega, fun q116 => ?_, fun q116 => ?_⟩
                    · skip
                      have e116a := e115a.trans (if_pos q116)
                      exact ih ψ114 (jm_st1 (jm_st1 (jm_st1 L 6 (0, z82)) 4 (0, 0)) 5 (0, l5 + 1)) 0 (l5 + 1) (get_st1 (get_st1 (get_st1 g0 (by decide) (fun q => absurd q.1 (by decide))) (by decide) (fun q => absurd q.1 (by decide))) (by decide) (fun q => absurd q.1 (by decide))) (get_st1 (get_st1 (get_st1 g1 (by decide) (fun q => absurd q.1 (by decide))) (by decide) (fun q => absurd q.1 (by decide))) (by decide) (fun q => absurd q.1 (by decide))) (get_st1 (get_st1 (get_st1 g2 (by decide) (fun q => absurd q.1 (by decide))) (by decide) (fun q => absurd q.1 (by decide))) (by decide) (fun q => absurd q.1 (by decide))) (get_st1 (get_st1 (get_st1 g3 (by decide) (fun q => absurd q.1 (by decide))) (by decide) (fun q => tg0 q.2)) (by decide) (fun q => absurd q.1 (by decide))) (get_st1 get_st1e (by decide) (fun q => tg0 q.2)) get_st1e hI114 (by omega) (by omega) (by omega) (by omega) (by omega) (fun rr χ hIχ hFχ hpχ hEχ => hQ rr χ hIχ (fr_tr hG114 hFχ (by decide)) hpχ (e116a.trans hEχ))
                    · skip
                      have e116b := e115a.trans (if_neg q116)
                      refine sf_149_52 (φ := ψ114) hI114 (by omega) (by omega) (by omega) (by omega) (by omega) (by omega) (fun z117 ψ117 hI117 hF117 hp117 hE117 => ⟨rfl, z117, rfl, ?_⟩)
                      have hG117 : Fr [53, 54, 55, 2004, 2005, 2006, 2007, 2008, 2009, 2010, 53003, 53004] φ ψ117 := fr_tr hG114 hF117 (by decide)
                      have e117 := e116b.trans (bnd_e hE117)
                      exact ih ψ117 (jm_st1 (jm_st1 (jm_st1 L 6 (0, z82)) 4 (0, 0)) 5 (0, l5 + 1)) 0 (l5 + 1) (get_st1 (get_st1 (get_st1 g0 (by decide) (fun q => absurd q.1 (by decide))) (by decide) (fun q => absurd q.1 (by decide))) (by decide) (fun q => absurd q.1 (by decide))) (get_st1 (get_st1 (get_st1 g1 (by decide) (fun q => absurd q.1 (by decide))) (by decide) (fun q => absurd q.1 (by decide))) (by decide) (fun q => absurd q.1 (by decide))) (get_st1 (get_st1 (get_st1 g2 (by decide) (fun q => absurd q.1 (by decide))) (by decide) (fun q => absurd q.1 (by decide))) (by decide) (fun q => absurd q.1 (by decide))) (get_st1 (get_st1 (get_st1 g3 (by decide) (fun q => absurd q.1 (by decide))) (by decide) (fun q => tg0 q.2)) (by decide) (fun q => absurd q.1 (by decide))) (get_st1 get_st1e (by decide) (fun q => tg0 q.2)) get_st1e hI117 (by omega) (by omega) (by omega) (by omega) (by omega) (fun rr χ hIχ hFχ hpχ hEχ => hQ rr χ hIχ (fr_tr hG117 hFχ (by decide)) hpχ (e117.trans hEχ))
                  · skip
                    have e115b := e114.trans (if_neg q115)
                    exact hQ 0 ψ114 hI114 hG114 ⟨by omega, by omega⟩ e115b
                · skip
                  have e112b := e105b.trans (if_neg q112)
                  refine sf_29_1 (φ := φ) hI  (fun ψ119 hI119 hF119 hE119 => ⟨rfl, rfl, ?_⟩)
                  have hG119 : Fr [53, 54, 55, 2004, 2005, 2006, 2007, 2008, 2009, 2010, 53003, 53004] φ ψ119 := fr_tr (fr_rf) hF119 (by decide)
                  have e119 := e112b.trans (bnv_e hE119)
                  refine hO (φ := ψ119) hI119  (fun z120 ψ120 hI120 hF120 hp120 hE120 => ⟨rfl, z120, rfl, ?_⟩)
                  have hG120 : Fr [53, 54, 55, 2004, 2005, 2006, 2007, 2008, 2009, 2010, 53003, 53004] φ ψ120 := fr_tr hG119 hF120 (by decide)
                  have e120 := e119.trans (bnd_e hE120)
                  refine ⟨by unfold hi; omega, fun q121 => ?_, fun q121 => ?_⟩
                  · skip
                    have e121a := e120.trans (if_pos q121)
                    refine ⟨by unfold hi; omega, fun q122 => ?_, fun q122 => ?_⟩
                    · skip
                      have e122a := e121a.trans (if_pos q122)
                      exact ih ψ120 (jm_st1 (jm_st1 (jm_st1 L 6 (0, z82)) 4 (0, 1)) 5 (0, l5 + 1)) 1 (l5 + 1) (get_st1 (get_st1 (get_st1 g0 (by decide) (fun q => absurd q.1 (by decide))) (by decide) (fun q => absurd q.1 (by decide))) (by decide) (fun q => absurd q.1 (by decide))) (get_st1 (get_st1 (get_st1 g1 (by decide) (fun q => absurd q.1 (by decide))) (by decide) (fun q => absurd q.1 (by decide))) (by decide) (fun q => absurd q.1 (by decide))) (get_st1 (get_st1 (get_st1 g2 (by decide) (fun q => absurd q.1 (by decide))) (by decide) (fun q => absurd q.1 (by decide))) (by decide) (fun q => absurd q.1 (by decide))) (get_st1 (get_st1 (get_st1 g3 (by decide) (fun q => absurd q.1 (by decide))) (by decide) (fun q => tg0 q.2)) (by decide) (fun q => absurd q.1 (by decide))) (get_st1 get_st1e (by decide) (fun q => tg0 q.2)) get_st1e hI120 (by omega) (by omega) (by omega) (by omega) (by omega) (fun rr χ hIχ hFχ hpχ hEχ => hQ rr χ hIχ (fr_tr hG120 hFχ (by decide)) hpχ (e122a.trans hEχ))
                    · skip
                      have e122b := e121a.trans (if_neg q122)
                      refine sf_149_52 (φ := ψ120) hI120 (by omega) (by omega) (by omega) (by omega) (by omega) (by omega) (fun z123 ψ123 hI123 hF123 hp123 hE123 => ⟨rfl, z123, rfl, ?_⟩)
                      have hG123 : Fr [53, 54, 55, 2004, 2005, 2006, 2007, 2008, 2009, 2010, 53003, 53004] φ ψ123 := fr_tr hG120 hF123 (by decide)
                      have e123 := e122b.trans (bnd_e hE123)
                      exact ih ψ123 (jm_st1 (jm_st1 (jm_st1 L 6 (0, z82)) 4 (0, 1)) 5 (0, l5 + 1)) 1 (l5 + 1) (get_st1 (get_st1 (get_st1 g0 (by decide) (fun q => absurd q.1 (by decide))) (by decide) (fun q => absurd q.1 (by decide))) (by decide) (fun q => absurd q.1 (by decide))) (get_st1 (get_st1 (get_st1 g1 (by decide) (fun q => absurd q.1 (by decide))) (by decide) (fun q => absurd q.1 (by decide))) (by decide) (fun q => absurd q.1 (by decide))) (get_st1 (get_st1 (get_st1 g2 (by decide) (fun q => absurd q.1 (by decide))) (by decide) (fun q => absurd q.1 (by decide))) (by decide) (fun q => absurd q.1 (by decide))) (get_st1 (get_st1 (get_st1 g3 (by decide) (fun q => absurd q.1 (by decide))) (by decide) (fun q => tg0 q.2)) (by decide) (fun q => absurd q.1 (by decide))) (get_st1 get_st1e (by decide) (fun q => tg0 q.2)) get_st1e hI123 (by omega) (by omega) (by omega) (by omega) (by omega) (fun rr χ hIχ hFχ hpχ hEχ => hQ rr χ hIχ (fr_tr hG123 hFχ (by decide)) hpχ (e123.trans hEχ))
                  · skip
                    have e121b := e120.trans (if_neg q121)
                    exact hQ 0 ψ120 hI120 hG120 ⟨by omega, by omega⟩ e121b
            · skip
              have e104b := e83b.trans (if_neg q104)
              refine sf_149_52 (φ := φ) hI (by omega) (by omega) (by omega) (by omega) (by omega) (by omega) (fun z125 ψ125 hI125 hF125 hp125 hE125 => ⟨rfl, z125, rfl, ?_⟩)
              have hG125 : Fr [53, 54, 55, 2004, 2005, 2006, 2007, 2008, 2009, 2010, 53003, 53004] φ ψ125 := fr_tr (fr_rf) hF125 (by decide)
              have e125 := e104b.trans (bnd_e hE125)
              refine ⟨by unfold hi; omega, fun q126 => ?_, fun q126 => ?_⟩
              · skip
                have e126a := e125.trans (if_pos q126)
                refine sf_29_1 (φ := ψ125) hI125  (fun ψ127 hI127 hF127 hE127 => ⟨rfl, rfl, ?_⟩)
                have hG127 : Fr [53, 54, 55, 2004, 2005, 2006, 2007, 2008, 2009, 2010, 53003, 53004] φ ψ127 := fr_tr hG125 hF127 (by decide)
                have e127 := e126a.trans (bnv_e hE127)
                refine hO (φ := ψ127) hI127  (fun z128 ψ128 hI128 hF128 hp128 hE128 => ⟨rfl, z128, rfl, ?_⟩)
                have hG128 : Fr [53, 54, 55, 2004, 2005, 2006, 2007, 2008, 2009, 2010, 53003, 53004] φ ψ128 := fr_tr hG127 hF128 (by decide)
                have e128 := e127.trans (bnd_e hE128)
                refine ⟨by unfold hi; omega, fun q129 => ?_, fun q129 => ?_⟩
                · skip
                  have e129a := e128.trans (if_pos q129)
                  refine ⟨by unfold hi; omega, fun q130 => ?_, fun q130 => ?_⟩
                  · skip
                    have e130a := e129a.trans (if_pos q130)
                    exact ih ψ128 (jm_st1 (jm_st1 (jm_st1 L 6 (0, z82)) 4 (0, 1)) 5 (0, l5 + 1)) 1 (l5 + 1) (get_st1 (get_st1 (get_st1 g0 (by decide) (fun q => absurd q.1 (by decide))) (by decide) (fun q => absurd q.1 (by decide))) (by decide) (fun q => absurd q.1 (by decide))) (get_st1 (get_st1 (get_st1 g1 (by decide) (fun q => absurd q.1 (by decide))) (by decide) (fun q => absurd q.1 (by decide))) (by decide) (fun q => absurd q.1 (by decide))) (get_st1 (get_st1 (get_st1 g2 (by decide) (fun q => absurd q.1 (by decide))) (by decide) (fun q => absurd q.1 (by decide))) (by decide) (fun q => absurd q.1 (by decide))) (get_st1 (get_st1 (get_st1 g3 (by decide) (fun q => absurd q.1 (by decide))) (by decide) (fun q => tg0 q.2)) (by decide) (fun q => absurd q.1 (by decide))) (get_st1 get_st1e (by decide) (fun q => tg0 q.2)) get_st1e hI128 (by omega) (by omega) (by omega) (by omega) (by omega) (fun rr χ hIχ hFχ hpχ hEχ => hQ rr χ hIχ (fr_tr hG128 hFχ (by decide)) hpχ (e130a.trans hEχ))
                  · skip
                    have e130b := e129a.trans (if_neg q130)
                    refine sf_149_52 (φ := ψ128) hI128 (by omega) (by omega) (by omega) (by omega) (by omega) (by omega) (fun z131 ψ131 hI131 hF131 hp131 hE131 => ⟨rfl, z131, rfl, ?_⟩)
                    have hG131 : Fr [53, 54, 55, 2004, 2005, 2006, 2007, 2008, 2009, 2010, 53003, 53004] φ ψ131 := fr_tr hG128 hF131 (by decide)
                    have e131 := e130b.trans (bnd_e hE131)
                    exact ih ψ131 (jm_st1 (jm_st1 (jm_st1 L 6 (0, z82)) 4 (0, 1)) 5 (0, l5 + 1)) 1 (l5 + 1) (get_st1 (get_st1 (get_st1 g0 (by decide) (fun q => absurd q.1 (by decide))) (by decide) (fun q => absurd q.1 (by decide))) (by decide) (fun q => absurd q.1 (by decide))) (get_st1 (get_st1 (get_st1 g1 (by decide) (fun q => absurd q.1 (by decide))) (by decide) (fun q => absurd q.1 (by decide))) (by decide) (fun q => absurd q.1 (by decide))) (get_st1 (get_st1 (get_st1 g2 (by decide) (fun q => absurd q.1 (by decide))) (by decide) (fun q => absurd q.1 (by decide))) (by decide) (fun q => absurd q.1 (by decide))) (get_st1 (get_st1 (get_st1 g3 (by decide) (fun q => absurd q.1 (by decide))) (by decide) (fun q => tg0 q.2)) (by decide) (fun q => absurd q.1 (by decide))) (get_st1 get_st1e (by decide) (fun q => tg0 q.2)) get_st1e hI131 (by omega) (by omega) (by omega) (by omega) (by omega) (fun rr χ hIχ hFχ hpχ hEχ => hQ rr χ hIχ (fr_tr hG131 hFχ (by decide)) hpχ (e131.trans hEχ))
                · skip
                  have e129b := e128.trans (if_neg q129)
                  exact hQ 0 ψ128 hI128 hG128 ⟨by omega, by omega⟩ e129b
              · skip
                have e126b := e125.trans (if_neg q126)
                refine ⟨by unfold hi; omega, fun q133 => ?_, fun q133 => ?_⟩
                · skip
                  have e133a := e126b.trans (if_pos q133)
                  refine sf_29_1 (φ := ψ125) hI125  (fun ψ134 hI134 hF134 hE134 => ⟨rfl, rfl, ?_⟩)
                  have hG134 : Fr [53, 54, 55, 2004, 2005, 2006, 2007, 2008, 2009, 2010, 53003, 53004] φ ψ134 := fr_tr hG125 hF134 (by decide)
                  have e134 := e133a.trans (bnv_e hE134)
                  refine hO (φ := ψ134) hI134  (fun z135 ψ135 hI135 hF135 hp135 hE135 => ⟨rfl, z135, rfl, ?_⟩)
                  have hG135 : Fr [53, 54, 55, 2004, 2005, 2006, 2007, 2008, 2009, 2010, 53003, 53004] φ ψ135 := fr_tr hG134 hF135 (by decide)
                  have e135 := e134.trans (bnd_e hE135)
                  refine ⟨by unfold hi; omega, fun q136 => ?_, fun q136 => ?_⟩
                  · skip
                    have e136a := e135.trans (if_pos q136)
                    refine ⟨by unfold hi; omega, fun q137 => ?_, fun q137 => ?_⟩
                    · skip
                      have e137a := e136a.trans (if_pos q137)
                      exact ih ψ135 (jm_st1 (jm_st1 (jm_st1 L 6 (0, z82)) 4 (0, 0)) 5 (0, l5 + 1)) 0 (l5 + 1) (get_st1 (get_st1 (get_st1 g0 (by decide) (fun q => absurd q.1 (by decide))) (by decide) (fun q => absurd q.1 (by decide))) (by decide) (fun q => absurd q.1 (by decide))) (get_st1 (get_st1 (get_st1 g1 (by decide) (fun q => absurd q.1 (by decide))) (by decide) (fun q => absurd q.1 (by decide))) (by decide) (fun q => absurd q.1 (by decide))) (get_st1 (get_st1 (get_st1 g2 (by decide) (fun q => absurd q.1 (by decide))) (by decide) (fun q => absurd q.1 (by decide))) (by decide) (fun q => absurd q.1 (by decide))) (get_st1 (get_st1 (get_st1 g3 (by decide) (fun q => absurd q.1 (by decide))) (by decide) (fun q => tg0 q.2)) (by decide) (fun q => absurd q.1 (by decide))) (get_st1 get_st1e (by decide) (fun q => tg0 q.2)) get_st1e hI135 (by omega) (by omega) (by omega) (by omega) (by omega) (fun rr χ hIχ hFχ hpχ hEχ => hQ rr χ hIχ (fr_tr hG135 hFχ (by decide)) hpχ (e137a.trans hEχ))
                    · skip
                      have e137b := e136a.trans (if_neg q137)
                      refine sf_149_52 (φ := ψ135) hI135 (by omega) (by omega) (by omega) (by omega) (by omega) (by omega) (fun z138 ψ138 hI138 hF138 hp138 hE138 => ⟨rfl, z138, rfl, ?_⟩)
                      have hG138 : Fr [53, 54, 55, 2004, 2005, 2006, 2007, 2008, 2009, 2010, 53003, 53004] φ ψ138 := fr_tr hG135 hF138 (by decide)
                      have e138 := e137b.trans (bnd_e hE138)
                      exact ih ψ138 (jm_st1 (jm_st1 (jm_st1 L 6 (0, z82)) 4 (0, 0)) 5 (0, l5 + 1)) 0 (l5 + 1) (get_st1 (get_st1 (get_st1 g0 (by decide) (fun q => absurd q.1 (by decide))) (by decide) (fun q => absurd q.1 (by decide))) (by decide) (fun q => absurd q.1 (by decide))) (get_st1 (get_st1 (get_st1 g1 (by decide) (fun q => absurd q.1 (by decide))) (by decide) (fun q => absurd q.1 (by decide))) (by decide) (fun q => absurd q.1 (by decide))) (get_st1 (get_st1 (get_st1 g2 (by decide) (fun q => absurd q.1 (by decide))) (by decide) (fun q => absurd q.1 (by decide))) (by decide) (fun q => absurd q.1 (by decide))) (get_st1 (get_st1 (get_st1 g3 (by decide) (fun q => absurd q.1 (by decide))) (by decide) (fun q => tg0 q.2)) (by decide) (fun q => absurd q.1 (by decide))) (get_st1 get_st1e (by decide) (fun q => tg0 q.2)) get_st1e hI138 (by omega) (by omega) (by omega) (by omega) (by omega) (fun rr χ hIχ hFχ hpχ hEχ => hQ rr χ hIχ (fr_tr hG138 hFχ (by decide)) hpχ (e138.trans hEχ))
                  · skip
                    have e136b := e135.trans (if_neg q136)
                    exact hQ 0 ψ135 hI135 hG135 ⟨by omega, by omega⟩ e136b
                · skip
                  have e133b := e126b.trans (if_neg q133)
                  refine sf_29_1 (φ := ψ125) hI125  (fun ψ140 hI140 hF140 hE140 => ⟨rfl, rfl, ?_⟩)
                  have hG140 : Fr [53, 54, 55, 2004, 2005, 2006, 2007, 2008, 2009, 2010, 53003, 53004] φ ψ140 := fr_tr hG125 hF140 (by decide)
                  have e140 := e133b.trans (bnv_e hE140)
                  refine hO (φ := ψ140) hI140  (fun z141 ψ141 hI141 hF141 hp141 hE141 => ⟨rfl, z141, rfl, ?_⟩)
                  have hG141 : Fr [53, 54, 55, 2004, 2005, 2006, 2007, 2008, 2009, 2010, 53003, 53004] φ ψ141 := fr_tr hG140 hF141 (by decide)
                  have e141 := e140.trans (bnd_e hE141)
                  refine ⟨by unfold hi; omega, fun q142 => ?_, fun q142 => ?_⟩
                  · skip
                    have e142a := e141.trans (if_pos q142)
                    refine ⟨by unfold hi; omega, fun q143 => ?_, fun q143 => ?_⟩
                    · skip
                      have e143a := e142a.trans (if_pos q143)
                      exact ih ψ141 (jm_st1 (jm_st1 (jm_st1 L 6 (0, z82)) 4 (0, 1)) 5 (0, l5 + 1)) 1 (l5 + 1) (get_st1 (get_st1 (get_st1 g0 (by decide) (fun q => absurd q.1 (by decide))) (by decide) (fun q => absurd q.1 (by decide))) (by decide) (fun q => absurd q.1 (by decide))) (get_st1 (get_st1 (get_st1 g1 (by decide) (fun q => absurd q.1 (by decide))) (by decide) (fun q => absurd q.1 (by decide))) (by decide) (fun q => absurd q.1 (by decide))) (get_st1 (get_st1 (get_st1 g2 (by decide) (fun q => absurd q.1 (by decide))) (by decide) (fun q => absurd q.1 (by decide))) (by decide) (fun q => absurd q.1 (by decide))) (get_st1 (get_st1 (get_st1 g3 (by decide) (fun q => absurd q.1 (by decide))) (by decide) (fun q => tg0 q.2)) (by decide) (fun q => absurd q.1 (by decide))) (get_st1 get_st1e (by decide) (fun q => tg0 q.2)) get_st1e hI141 (by omega) (by omega) (by omega) (by omega) (by omega) (fun rr χ hIχ hFχ hpχ hEχ => hQ rr χ hIχ (fr_tr hG141 hFχ (by decide)) hpχ (e143a.trans hEχ))
                    · skip
                      have e143b := e142a.trans (if_neg q143)
                      refine sf_149_52 (φ := ψ141) hI141 (by omega) (by omega) (by omega) (by omega) (by omega) (by omega) (fun z144 ψ144 hI144 hF144 hp144 hE144 => ⟨rfl, z144, rfl, ?_⟩)
                      have hG144 : Fr [53, 54, 55, 2004, 2005, 2006, 2007, 2008, 2009, 2010, 53003, 53004] φ ψ144 := fr_tr hG141 hF144 (by decide)
                      have e144 := e143b.trans (bnd_e hE144)
                      exact ih ψ144 (jm_st1 (jm_st1 (jm_st1 L 6 (0, z82)) 4 (0, 1)) 5 (0, l5 + 1)) 1 (l5 + 1) (get_st1 (get_st1 (get_st1 g0 (by decide) (fun q => absurd q.1 (by decide))) (by decide) (fun q => absurd q.1 (by decide))) (by decide) (fun q => absurd q.1 (by decide))) (get_st1 (get_st1 (get_st1 g1 (by decide) (fun q => absurd q.1 (by decide))) (by decide) (fun q => absurd q.1 (by decide))) (by decide) (fun q => absurd q.1 (by decide))) (get_st1 (get_st1 (get_st1 g2 (by decide) (fun q => absurd q.1 (by decide))) (by decide) (fun q => absurd q.1 (by decide))) (by decide) (fun q => absurd q.1 (by decide))) (get_st1 (get_st1 (get_st1 g3 (by decide) (fun q => absurd q.1 (by decide))) (by decide) (fun q => tg0 q.2)) (by decide) (fun q => absurd q.1 (by decide))) (get_st1 get_st1e (by decide) (fun q => tg0 q.2)) get_st1e hI144 (by omega) (by omega) (by omega) (by omega) (by omega) (fun rr χ hIχ hFχ hpχ hEχ => hQ rr χ hIχ (fr_tr hG144 hFχ (by decide)) hpχ (e144.trans hEχ))
                  · skip
                    have e142b := e141.trans (if_neg q142)
                    exact hQ 0 ψ141 hI141 hG141 ⟨by omega, by omega⟩ e142b
theorem sfg_146_v {sc : List Int} {d : Nat} {D : Int} (hD1 : 1 ≤ D) (hD2 : D ≤ 9) {φ : hf_F} {x : Nat} {Q : Option jm_V → hf_F → Nat → Prop} 
    (H : hw sc (d + 4) 147 0 [(0, (2, 52)), (1, (2, 1)), (2, (2, 5)), (3, (0, D))] [] φ x (fun r ψ1 y1 => y1 = x ∧ (∃ z1 : Int, r = some (0, z1) ∧ (hi z1 ∧ (¬ z1 = 0 → hw sc (d + 5) 146 18 (jm_st1 (jm_st1 [(0, (2, 52)), (1, (2, 1)), (2, (2, 5)), (3, (0, D))] 4 (0, 0)) 5 (0, 0)) [] ψ1 x Q) ∧ (¬ (¬ z1 = 0) → Q (some (0, 0)) ψ1 x))))) :
    hw sc (d + 5) 146 0 [(0, (2, 52)), (1, (2, 1)), (2, (2, 5)), (3, (0, D))] [] φ x Q := by
  refine hw_ald (b := 0) (e := 0) (by decide +kernel) rfl (by decide) ?_
  refine hw_ald (b := 1) (e := 0) (by decide +kernel) rfl (by decide) ?_
  refine hw_ald (b := 2) (e := 0) (by decide +kernel) rfl (by decide) ?_
  refine hw_ld (b := 3) (e := 0) (by decide +kernel) rfl ?_
  refine hr_call (a0 := 15) (b := 147) (e := 4) (nl := 6) (As := [(2, 1), (2, 5), (0, D)]) (R := []) 52 rfl (by decide +kernel) rfl rfl (Nat.le_of_ble_eq_true rfl) (Nat.le_of_ble_eq_true rfl) ?_
  refine hw_mono H ?_
  rintro r ψ1 y1 ⟨hyx, z1, hr, H⟩
  subst hyx
  subst hr
  refine ⟨hne0, ?_⟩
  show hw sc (d + 5) 146 7 [(0, (2, 52)), (1, (2, 1)), (2, (2, 5)), (3, (0, D))] [(0, z1)] ψ1 y1 Q
  obtain ⟨hz2, ht2, hf2⟩ := H
  refine hw_if (a0 := 0) (b := 1) (e := 12) (by decide +kernel) hz2 (fun q => ?_) (fun q => ?_)
  · have H := ht2 q
    refine hw_k (c := 0) (b := 0) (e := 1) (by decide +kernel) ?_
    refine hw_st (L' := (jm_st1 [(0, (2, 52)), (1, (2, 1)), (2, (2, 5)), (3, (0, D))] 4 (0, 0))) (b := 4) (e := 1) (by decide +kernel) rfl ?_
    refine hw_k (c := 0) (b := 0) (e := 1) (by decide +kernel) ?_
    refine hw_st (L' := (jm_st1 (jm_st1 [(0, (2, 52)), (1, (2, 1)), (2, (2, 5)), (3, (0, D))] 4 (0, 0)) 5 (0, 0))) (b := 5) (e := 1) (by decide +kernel) rfl ?_
    exact H
  · have H := hf2 q
    refine hw_k (c := 0) (b := 0) (e := 1) (by decide +kernel) ?_
    exact hw_ret (a0 := 0) (e := 1) (by decide +kernel) (Or.inr ⟨rfl, by decide⟩) H
theorem sfg_146 {sc : List Int} {d : Nat} {D : Int} (hD1 : 1 ≤ D) (hD2 : D ≤ 9) {fo : hf_F → Int × hf_F} (hO : ∀ {φ : hf_F} {x : Nat} {Q : Option jm_V → hf_F → Nat → Prop}, Inv φ → (∀ (r : Int) (ψ : hf_F), Inv ψ → Fr [53, 54, 55, 2004, 2005, 2006, 2007, 2008, 2009, 2010, 53003, 53004] φ ψ → 0 ≤ r ∧ r ≤ 1 → fo φ = (r, ψ) → Q (some (0, r)) ψ x) → hw sc (d + 4) 147 0 [(0, (2, 52)), (1, (2, 1)), (2, (2, 5)), (3, (0, D))] [] φ x Q) {φ : hf_F} {x : Nat} {Q : Option jm_V → hf_F → Nat → Prop}  (hI : Inv φ)  (hQ : ∀ (r : Int) (ψ : hf_F), Inv ψ → Fr [53, 54, 55, 2004, 2005, 2006, 2007, 2008, 2009, 2010, 53003, 53004] φ ψ → 0 ≤ r ∧ r ≤ 1 → FG_146 fo φ = (r, ψ) → Q (some (0, r)) ψ x) : hw sc (d + 5) 146 0 [(0, (2, 52)), (1, (2, 1)), (2, (2, 5)), (3, (0, D))] [] φ x Q := by
  apply sfg_146_v hD1 hD2
  have e0 : FG_146 fo φ = _ := rfl
  refine hO (φ := φ) hI  (fun z1 ψ1 hI1 hF1 hp1 hE1 => ⟨rfl, z1, rfl, ?_⟩)
  have hG1 : Fr [53, 54, 55, 2004, 2005, 2006, 2007, 2008, 2009, 2010, 53003, 53004] φ ψ1 := fr_tr (fr_rf) hF1 (by decide)
  have e1 := e0.trans (bnd_e hE1)
  refine ⟨by unfold hi; omega, fun q2 => ?_, fun q2 => ?_⟩
  · skip
    have e2a := e1.trans (if_pos q2)
    exact sfg_146_l18 hD1 hD2 hO ((20 - 0 : Int).toNat + 1) ψ1 (jm_st1 (jm_st1 [(0, (2, 52)), (1, (2, 1)), (2, (2, 5)), (3, (0, D))] 4 (0, 0)) 5 (0, 0)) 0 0 (get_st1 (get_st1 rfl (by decide) (fun q => absurd q.1 (by decide))) (by decide) (fun q => absurd q.1 (by decide))) (get_st1 (get_st1 rfl (by decide) (fun q => absurd q.1 (by decide))) (by decide) (fun q => absurd q.1 (by decide))) (get_st1 (get_st1 rfl (by decide) (fun q => absurd q.1 (by decide))) (by decide) (fun q => absurd q.1 (by decide))) (get_st1 (get_st1 rfl (by decide) (fun q => tg0 q.2)) (by decide) (fun q => absurd q.1 (by decide))) (get_st1 get_st1e (by decide) (fun q => tg0 q.2)) get_st1e hI1 (by omega) (by omega) (by omega) (by omega) (by omega) (fun rr χ hIχ hFχ hpχ hEχ => hQ rr χ hIχ (fr_tr hG1 hFχ (by decide)) hpχ (e2a.trans hEχ))
  · skip
    have e2b := e1.trans (if_neg q2)
    exact hQ 0 ψ1 hI1 hG1 ⟨by omega, by omega⟩ e2b
theorem sf_146_52_1_5_k3_9 {sc : List Int} {d : Nat} {φ : hf_F} {x : Nat} {Q : Option jm_V → hf_F → Nat → Prop}  (hI : Inv φ)  (hQ : ∀ (r : Int) (ψ : hf_F), Inv ψ → Fr [53, 54, 55, 2004, 2005, 2006, 2007, 2008, 2009, 2010, 53003, 53004] φ ψ → 0 ≤ r ∧ r ≤ 1 → F_Sentence_readCond_52_1_5_k3_9 φ = (r, ψ) → Q (some (0, r)) ψ x) : hw sc (d + 5) 146 0 [(0, (2, 52)), (1, (2, 1)), (2, (2, 5)), (3, (0, 9))] [] φ x Q := by
  have h := sfg_146 (sc := sc) (d := d) (D := 9) (by decide) (by decide) (fo := F_Sentence_readOne_52_1_5_k3_9) (fun hI2 hQ2 => sf_147_52_1_5_k3_9 (d := d) hI2 hQ2) (φ := φ) (x := x) (Q := Q) hI hQ
  exact h
theorem sfg_147_v {sc : List Int} {d : Nat} {D : Int} (hD1 : 1 ≤ D) (hD2 : D ≤ 8) {φ : hf_F} {x : Nat} {Q : Option jm_V → hf_F → Nat → Prop} 
    (H : hw sc (d + 5) 61 0 [(0, (2, 1)), (1, (0, 40))] [] φ x (fun r ψ1 y1 => y1 = x ∧ φ = ψ1 ∧ (∃ z1 : Int, r = some (0, z1) ∧ (hi z1 ∧ (¬ z1 = 0 → hi (φ 52 4) ∧ hi 20 ∧ (20 ≤ (φ 52 4) → hw sc (d + 5) 37 0 [(0, (2, 1)), (1, (0, 4))] [] φ x (fun r ψ4 y4 => y4 = x ∧ (∃ z4 : Int, r = some (0, z4) ∧ ((z4 = 0 ∨ z4 = 1) ∧ Q (some (0, z4)) ψ4 x)))) ∧ (¬ 20 ≤ (φ 52 4) → hw sc (d + 5) 29 0 [(0, (2, 1))] [] (hf_up φ 52 4 ((φ 52 4) + 1)) x (fun r ψ7 y7 => y7 = x ∧ (r = none ∧ (hi z1 ∧ (z1 = 0 → hi (φ 1 7) ∧ ((φ 1 7) = 14 → hw sc (d + 5) 147 0 [(0, (2, 52)), (1, (2, 1)), (2, (2, 5)), (3, (0, (D + 1)))] [] ψ7 x (fun r ψ10 y10 => y10 = x ∧ (∃ z10 : Int, r = some (0, z10) ∧ (hi z10 ∧ (z10 = 0 → Q (some (0, 0)) ψ10 x) ∧ (¬ z10 = 0 → hw sc (d + 5) 149 0 [(0, (2, 52)), (1, (0, φ 1 7)), (2, (0, 0)), (3, (0, 0))] [] ψ10 x (fun r ψ13 y13 => y13 = x ∧ (∃ z13 : Int, r = some (0, z13) ∧ (hi z13 ∧ (z13 = 0 → Q (some (0, 0)) ψ13 x) ∧ (¬ z13 = 0 → Q (some (0, 1)) ψ13 x))))))))) ∧ ((φ 1 7) = 15 → hw sc (d + 5) 149 0 [(0, (2, 52)), (1, (0, φ 1 7)), (2, (0, 0)), (3, (0, 0))] [] ψ7 x (fun r ψ17 y17 => y17 = x ∧ (∃ z17 : Int, r = some (0, z17) ∧ ((z17 = 0 ∨ z17 = 1) ∧ Q (some (0, z17)) ψ17 x)))) ∧ ((φ 1 7) = 16 → hw sc (d + 5) 149 0 [(0, (2, 52)), (1, (0, φ 1 7)), (2, (0, 0)), (3, (0, 0))] [] ψ7 x (fun r ψ19 y19 => y19 = x ∧ (∃ z19 : Int, r = some (0, z19) ∧ ((z19 = 0 ∨ z19 = 1) ∧ Q (some (0, z19)) ψ19 x)))) ∧ ((φ 1 7) = 17 → hw sc (d + 5) 149 0 [(0, (2, 52)), (1, (0, φ 1 7)), (2, (0, 0)), (3, (0, 0))] [] ψ7 x (fun r ψ21 y21 => y21 = x ∧ (∃ z21 : Int, r = some (0, z21) ∧ ((z21 = 0 ∨ z21 = 1) ∧ Q (some (0, z21)) ψ21 x)))) ∧ ((φ 1 7) = 18 → hw sc (d + 5) 150 0 [(0, (2, 52)), (1, (2, 1)), (2, (2, 5)), (3, (0, φ 1 7)), (4, (0, 1))] [] ψ7 x (fun r ψ23 y23 => y23 = x ∧ (∃ z23 : Int, r = some (0, z23) ∧ ((z23 = 0 ∨ z23 = 1) ∧ Q (some (0, z23)) ψ23 x)))) ∧ ((φ 1 7) = 19 → hw sc (d + 5) 150 0 [(0, (2, 52)), (1, (2, 1)), (2, (2, 5)), (3, (0, φ 1 7)), (4, (0, 2))] [] ψ7 x (fun r ψ25 y25 => y25 = x ∧ (∃ z25 : Int, r = some (0, z25) ∧ ((z25 = 0 ∨ z25 = 1) ∧ Q (some (0, z25)) ψ25 x)))) ∧ ((φ 1 7) = 20 → hw sc (d + 5) 151 0 [(0, (2, 52)), (1, (2, 1)), (2, (0, φ 1 7))] [] ψ7 x (fun r ψ27 y27 => y27 = x ∧ (∃ z27 : Int, r = some (0, z27) ∧ ((z27 = 0 ∨ z27 = 1) ∧ Q (some (0, z27)) ψ27 x)))) ∧ ((φ 1 7) = 21 → hw sc (d + 5) 151 0 [(0, (2, 52)), (1, (2, 1)), (2, (0, φ 1 7))] [] ψ7 x (fun r ψ29 y29 => y29 = x ∧ (∃ z29 : Int, r = some (0, z29) ∧ ((z29 = 0 ∨ z29 = 1) ∧ Q (some (0, z29)) ψ29 x)))) ∧ ((φ 1 7) = 22 → hw sc (d + 5) 151 0 [(0, (2, 52)), (1, (2, 1)), (2, (0, φ 1 7))] [] ψ7 x (fun r ψ31 y31 => y31 = x ∧ (∃ z31 : Int, r = some (0, z31) ∧ ((z31 = 0 ∨ z31 = 1) ∧ Q (some (0, z31)) ψ31 x)))) ∧ (((φ 1 7) < 14 ∨ 23 ≤ (φ 1 7)) → hw sc (d + 5) 149 0 [(0, (2, 52)), (1, (0, φ 1 7)), (2, (0, 0)), (3, (0, 0))] [] ψ7 x (fun r ψ33 y33 => y33 = x ∧ (∃ z33 : Int, r = some (0, z33) ∧ ((z33 = 0 ∨ z33 = 1) ∧ Q (some (0, z33)) ψ33 x))))) ∧ (¬ z1 = 0 → hw sc (d + 5) 146 0 [(0, (2, 52)), (1, (2, 1)), (2, (2, 5)), (3, (0, (D + 1)))] [] ψ7 x (fun r ψ35 y35 => y35 = x ∧ (∃ z35 : Int, r = some (0, z35) ∧ (hi z35 ∧ (z35 = 0 → Q (some (0, 0)) ψ35 x) ∧ (¬ z35 = 0 → hw sc (d + 5) 60 0 [(0, (2, 1)), (1, (0, 41))] [] ψ35 x (fun r ψ38 y38 => y38 = x ∧ (∃ z38 : Int, r = some (0, z38) ∧ (hi z38 ∧ (z38 = 0 → Q (some (0, 0)) ψ38 x) ∧ (¬ z38 = 0 → Q (some (0, 1)) ψ38 x)))))))))))))) ∧ (¬ (¬ z1 = 0) → hw sc (d + 5) 148 0 [(0, (2, 1))] [] φ x (fun r ψ42 y42 => y42 = x ∧ φ = ψ42 ∧ (∃ z42 : Int, r = some (0, z42) ∧ (hi z42 ∧ (¬ z42 = 0 → hi (φ 52 4) ∧ hi 20 ∧ (20 ≤ (φ 52 4) → hw sc (d + 5) 37 0 [(0, (2, 1)), (1, (0, 4))] [] φ x (fun r ψ45 y45 => y45 = x ∧ (∃ z45 : Int, r = some (0, z45) ∧ ((z45 = 0 ∨ z45 = 1) ∧ Q (some (0, z45)) ψ45 x)))) ∧ (¬ 20 ≤ (φ 52 4) → hw sc (d + 5) 29 0 [(0, (2, 1))] [] (hf_up φ 52 4 ((φ 52 4) + 1)) x (fun r ψ48 y48 => y48 = x ∧ (r = none ∧ (hi z1 ∧ (z1 = 0 → hi (φ 1 7) ∧ ((φ 1 7) = 14 → hw sc (d + 5) 147 0 [(0, (2, 52)), (1, (2, 1)), (2, (2, 5)), (3, (0, (D + 1)))] [] ψ48 x (fun r ψ51 y51 => y51 = x ∧ (∃ z51 : Int, r = some (0, z51) ∧ (hi z51 ∧ (z51 = 0 → Q (some (0, 0)) ψ51 x) ∧ (¬ z51 = 0 → hw sc (d + 5) 149 0 [(0, (2, 52)), (1, (0, φ 1 7)), (2, (0, 0)), (3, (0, 0))] [] ψ51 x (fun r ψ54 y54 => y54 = x ∧ (∃ z54 : Int, r = some (0, z54) ∧ (hi z54 ∧ (z54 = 0 → Q (some (0, 0)) ψ54 x) ∧ (¬ z54 = 0 → Q (some (0, 1)) ψ54 x))))))))) ∧ ((φ 1 7) = 15 → hw sc (d + 5) 149 0 [(0, (2, 52)), (1, (0, φ 1 7)), (2, (0, 0)), (3, (0, 0))] [] ψ48 x (fun r ψ58 y58 => y58 = x ∧ (∃ z58 : Int, r = some (0, z58) ∧ ((z58 = 0 ∨ z58 = 1) ∧ Q (some (0, z58)) ψ58 x)))) ∧ ((φ 1 7) = 16 → hw sc (d + 5) 149 0 [(0, (2, 52)), (1, (0, φ 1 7)), (2, (0, 0)), (3, (0, 0))] [] ψ48 x (fun r ψ60 y60 => y60 = x ∧ (∃ z60 : Int, r = some (0, z60) ∧ ((z60 = 0 ∨ z60 = 1) ∧ Q (some (0, z60)) ψ60 x)))) ∧ ((φ 1 7) = 17 → hw sc (d + 5) 149 0 [(0, (2, 52)), (1, (0, φ 1 7)), (2, (0, 0)), (3, (0, 0))] [] ψ48 x (fun r ψ62 y62 => y62 = x ∧ (∃ z62 : Int, r = some (0, z62) ∧ ((z62 = 0 ∨ z62 = 1) ∧ Q (some (0, z62)) ψ62 x)))) ∧ ((φ 1 7) = 18 → hw sc (d + 5) 150 0 [(0, (2, 52)), (1, (2, 1)), (2, (2, 5)), (3, (0, φ 1 7)), (4, (0, 1))] [] ψ48 x (fun r ψ64 y64 => y64 = x ∧ (∃ z64 : Int, r = some (0, z64) ∧ ((z64 = 0 ∨ z64 = 1) ∧ Q (some (0, z64)) ψ64 x)))) ∧ ((φ 1 7) = 19 → hw sc (d + 5) 150 0 [(0, (2, 52)), (1, (2, 1)), (2, (2, 5)), (3, (0, φ 1 7)), (4, (0, 2))] [] ψ48 x (fun r ψ66 y66 => y66 = x ∧ (∃ z66 : Int, r = some (0, z66) ∧ ((z66 = 0 ∨ z66 = 1) ∧ Q (some (0, z66)) ψ66 x)))) ∧ ((φ 1 7) = 20 → hw sc (d + 5) 151 0 [(0, (2, 52)), (1, (2, 1)), (2, (0, φ 1 7))] [] ψ48 x (fun r ψ68 y68 => y68 = x ∧ (∃ z68 : Int, r = some (0, z68) ∧ ((z68 = 0 ∨ z68 = 1) ∧ Q (some (0, z68)) ψ68 x)))) ∧ ((φ 1 7) = 21 → hw sc (d + 5) 151 0 [(0, (2, 52)), (1, (2, 1)), (2, (0, φ 1 7))] [] ψ48 x (fun r ψ70 y70 => y70 = x ∧ (∃ z70 : Int, r = some (0, z70) ∧ ((z70 = 0 ∨ z70 = 1) ∧ Q (some (0, z70)) ψ70 x)))) ∧ ((φ 1 7) = 22 → hw sc (d + 5) 151 0 [(0, (2, 52)), (1, (2, 1)), (2, (0, φ 1 7))] [] ψ48 x (fun r ψ72 y72 => y72 = x ∧ (∃ z72 : Int, r = some (0, z72) ∧ ((z72 = 0 ∨ z72 = 1) ∧ Q (some (0, z72)) ψ72 x)))) ∧ (((φ 1 7) < 14 ∨ 23 ≤ (φ 1 7)) → hw sc (d + 5) 149 0 [(0, (2, 52)), (1, (0, φ 1 7)), (2, (0, 0)), (3, (0, 0))] [] ψ48 x (fun r ψ74 y74 => y74 = x ∧ (∃ z74 : Int, r = some (0, z74) ∧ ((z74 = 0 ∨ z74 = 1) ∧ Q (some (0, z74)) ψ74 x))))) ∧ (¬ z1 = 0 → hw sc (d + 5) 146 0 [(0, (2, 52)), (1, (2, 1)), (2, (2, 5)), (3, (0, (D + 1)))] [] ψ48 x (fun r ψ76 y76 => y76 = x ∧ (∃ z76 : Int, r = some (0, z76) ∧ (hi z76 ∧ (z76 = 0 → Q (some (0, 0)) ψ76 x) ∧ (¬ z76 = 0 → hw sc (d + 5) 60 0 [(0, (2, 1)), (1, (0, 41))] [] ψ76 x (fun r ψ79 y79 => y79 = x ∧ (∃ z79 : Int, r = some (0, z79) ∧ (hi z79 ∧ (z79 = 0 → Q (some (0, 0)) ψ79 x) ∧ (¬ z79 = 0 → Q (some (0, 1)) ψ79 x)))))))))))))) ∧ (¬ (¬ z42 = 0) → hw sc (d + 5) 37 0 [(0, (2, 1)), (1, (0, 1))] [] φ x (fun r ψ83 y83 => y83 = x ∧ (∃ z83 : Int, r = some (0, z83) ∧ ((z83 = 0 ∨ z83 = 1) ∧ Q (some (0, z83)) ψ83 x)))))))))))) :
    hw sc (d + 6) 147 0 [(0, (2, 52)), (1, (2, 1)), (2, (2, 5)), (3, (0, D))] [] φ x Q := by
  refine hw_ald (b := 1) (e := 0) (by decide +kernel) rfl (by decide) ?_
  refine hw_k (c := 40) (b := 1) (e := 2) (by decide +kernel) ?_
  refine hr_call (a0 := 11) (b := 61) (e := 2) (nl := 2) (As := [(0, 40)]) (R := []) 1 rfl (by decide +kernel) rfl rfl (Nat.le_of_ble_eq_true rfl) (Nat.le_of_ble_eq_true rfl) ?_
  refine hw_mono H ?_
  rintro r ψ1 y1 ⟨hyx, hψx, z1, hr, H⟩
  subst hyx
  subst hψx
  subst hr
  refine ⟨hne0, ?_⟩
  show hw sc (d + 6) 147 6 [(0, (2, 52)), (1, (2, 1)), (2, (2, 5)), (3, (0, D))] [(0, z1)] φ y1 Q
  refine hw_st (L' := (jm_st1 [(0, (2, 52)), (1, (2, 1)), (2, (2, 5)), (3, (0, D))] 4 (0, z1))) (b := 4) (e := 1) (by decide +kernel) rfl ?_
  refine hw_ld (b := 4) (e := 1) (by decide +kernel) get_st1e ?_
  obtain ⟨hz2, ht2, hf2⟩ := H
  refine hw_if (a0 := 0) (b := 1) (e := 26) (by decide +kernel) hz2 (fun q => ?_) (fun q => ?_)
  · have H := ht2 q
    refine hw_ald (b := 0) (e := 0) (by decide +kernel) (get_st1 rfl (by decide) (fun q => absurd q.1 (by decide))) (by decide) ?_
    refine hr_gi (w := φ 52 4) (b := 5) (e := 4) 52 rfl (by decide +kernel) rfl ?_
    refine hw_k (c := 20) (b := 1) (e := 2) (by decide +kernel) ?_
    obtain ⟨hz3, hy3, ht3, hf3⟩ := H
    refine hw_if2 (a0 := 0) (b := 3) (e := 41) (by decide +kernel) hz3 hy3 (fun q => ?_) (fun q => ?_)
    · have H := ht3 q
      refine hw_ald (b := 1) (e := 0) (by decide +kernel) (get_st1 rfl (by decide) (fun q => absurd q.1 (by decide))) (by decide) ?_
      refine hw_k (c := 4) (b := 0) (e := 1) (by decide +kernel) ?_
      refine hr_call (a0 := 11) (b := 37) (e := 2) (nl := 2) (As := [(0, 4)]) (R := []) 1 rfl (by decide +kernel) rfl rfl (Nat.le_of_ble_eq_true rfl) (Nat.le_of_ble_eq_true rfl) ?_
      refine hw_mono H ?_
      rintro r ψ4 y4 ⟨hyx, z4, hr, H⟩
      subst hyx
      subst hr
      refine ⟨hne0, ?_⟩
      show hw sc (d + 6) 147 46 (jm_st1 [(0, (2, 52)), (1, (2, 1)), (2, (2, 5)), (3, (0, D))] 4 (0, z1)) [(0, z4)] ψ4 y4 Q
      exact hw_ret (a0 := 0) (e := 1) (by decide +kernel) (Or.inr ⟨rfl, H.1⟩) H.2
    · have H := hf3 q
      refine hw_ld (b := 3) (e := 0) (by decide +kernel) (get_st1 rfl (by decide) (fun q => tg0 q.2)) ?_
      refine hw_k (c := 8) (b := 1) (e := 2) (by decide +kernel) ?_
      refine hw_if2 (a0 := 0) (b := 5) (e := 47) (by decide +kernel) (by unfold hi; omega) (by unfold hi; omega) (fun _ => ?_) (fun q => absurd (show (D : Int) ≤ 8 from hD2) q)
      refine hw_ald (b := 0) (e := 0) (by decide +kernel) (get_st1 rfl (by decide) (fun q => absurd q.1 (by decide))) (by decide) ?_
      refine hw_dup (a0 := 0) (e := 0) (by decide +kernel) (by decide) ?_
      refine hr_gi (w := φ 52 4) (b := 5) (e := 4) 52 rfl (by decide +kernel) rfl ?_
      refine hw_k (c := 1) (b := 0) (e := 1) (by decide +kernel) ?_
      refine hw_bin (w := (φ 52 4) + 1) (a0 := 0) (b := 0) (e := 0) (by decide +kernel) rfl ?_
      refine hr_pi (b := 5) (e := 4) 52 rfl (by decide +kernel) ?_
      refine hw_ald (b := 1) (e := 0) (by decide +kernel) (get_st1 rfl (by decide) (fun q => absurd q.1 (by decide))) (by decide) ?_
      refine hr_gi (w := φ 1 7) (b := 1) (e := 7) 1 rfl (by decide +kernel) (hf_up_ne (fun q => absurd q.1 (by decide))) ?_
      refine hw_st (L' := (jm_st1 (jm_st1 [(0, (2, 52)), (1, (2, 1)), (2, (2, 5)), (3, (0, D))] 4 (0, z1)) 5 (0, φ 1 7))) (b := 5) (e := 1) (by decide +kernel) rfl ?_
      refine hw_ald (b := 1) (e := 0) (by decide +kernel) (get_st1 (get_st1 rfl (by decide) (fun q => absurd q.1 (by decide))) (by decide) (fun q => absurd q.1 (by decide))) (by decide) ?_
      refine hr_call (a0 := 11) (b := 29) (e := 1) (nl := 1) (As := []) (R := []) 1 rfl (by decide +kernel) rfl rfl (Nat.le_of_ble_eq_true rfl) (Nat.le_of_ble_eq_true rfl) ?_
      refine hw_mono H ?_
      rintro r ψ7 y7 ⟨hyx, hr, H⟩
      subst hyx
      subst hr
      refine ⟨hnen, ?_⟩
      show hw sc (d + 6) 147 67 (jm_st1 (jm_st1 [(0, (2, 52)), (1, (2, 1)), (2, (2, 5)), (3, (0, D))] 4 (0, z1)) 5 (0, φ 1 7)) [] ψ7 y7 Q
      refine hw_ld (b := 4) (e := 1) (by decide +kernel) (get_st1 get_st1e (by decide) (fun q => tg0 q.2)) ?_
      obtain ⟨hz8, ht8, hf8⟩ := H
      refine hw_if (a0 := 0) (b := 0) (e := 99) (by decide +kernel) hz8 (fun q => ?_) (fun q => ?_)
      · have H := ht8 q
        refine hw_ld (b := 5) (e := 1) (by decide +kernel) get_st1e ?_
        obtain ⟨hz9, H⟩ := H
        refine hr_tsw (T := [152, 209, 209, 209, 181, 191, 201, 201, 201]) (lo := 14) (nn := 23) (b := 209) (e := 5) (by decide +kernel) rfl hz9 ?_ ?_
        · intro q
          have H := H.2.2.2.2.2.2.2.2.2 q
          refine hw_ald (b := 0) (e := 0) (by decide +kernel) (get_st1 (get_st1 rfl (by decide) (fun q => absurd q.1 (by decide))) (by decide) (fun q => absurd q.1 (by decide))) (by decide) ?_
          refine hw_ld (b := 5) (e := 1) (by decide +kernel) get_st1e ?_
          refine hw_k (c := 0) (b := 0) (e := 1) (by decide +kernel) ?_
          refine hw_k (c := 0) (b := 0) (e := 1) (by decide +kernel) ?_
          refine hr_call (a0 := 15) (b := 149) (e := 4) (nl := 4) (As := [(0, φ 1 7), (0, 0), (0, 0)]) (R := []) 52 rfl (by decide +kernel) rfl rfl (Nat.le_of_ble_eq_true rfl) (Nat.le_of_ble_eq_true rfl) ?_
          refine hw_mono H ?_
          rintro r ψ33 y33 ⟨hyx, z33, hr, H⟩
          subst hyx
          subst hr
          refine ⟨hne0, ?_⟩
          show hw sc (d + 6) 147 217 (jm_st1 (jm_st1 [(0, (2, 52)), (1, (2, 1)), (2, (2, 5)), (3, (0, D))] 4 (0, z1)) 5 (0, φ 1 7)) [(0, z33)] ψ33 y33 Q
          exact hw_ret (a0 := 0) (e := 1) (by decide +kernel) (Or.inr ⟨rfl, H.1⟩) H.2
        · intro kq tq htq hzq
          match kq, htq, hzq with
          | 0, htq, hzq =>
            cases htq
            have H := H.1 (by omega)
            refine hw_ald (b := 0) (e := 0) (by decide +kernel) (get_st1 (get_st1 rfl (by decide) (fun q => absurd q.1 (by decide))) (by decide) (fun q => absurd q.1 (by decide))) (by decide) ?_
            refine hw_ald (b := 1) (e := 0) (by decide +kernel) (get_st1 (get_st1 rfl (by decide) (fun q => absurd q.1 (by decide))) (by decide) (fun q => absurd q.1 (by decide))) (by decide) ?_
            refine hw_ald (b := 2) (e := 0) (by decide +kernel) (get_st1 (get_st1 rfl (by decide) (fun q => absurd q.1 (by decide))) (by decide) (fun q => absurd q.1 (by decide))) (by decide) ?_
            refine hw_ld (b := 3) (e := 0) (by decide +kernel) (get_st1 (get_st1 rfl (by decide) (fun q => tg0 q.2)) (by decide) (fun q => absurd q.1 (by decide))) ?_
            refine hw_k (c := 1) (b := 0) (e := 1) (by decide +kernel) ?_
            refine hw_bin (w := (D + 1)) (a0 := 0) (b := 0) (e := 0) (by decide +kernel) rfl ?_
            refine hr_call (a0 := 15) (b := 147) (e := 4) (nl := 6) (As := [(2, 1), (2, 5), (0, (D + 1))]) (R := []) 52 rfl (by decide +kernel) rfl rfl (Nat.le_of_ble_eq_true rfl) (Nat.le_of_ble_eq_true rfl) ?_
            refine hw_mono H ?_
            rintro r ψ10 y10 ⟨hyx, z10, hr, H⟩
            subst hyx
            subst hr
            refine ⟨hne0, ?_⟩
            show hw sc (d + 6) 147 161 (jm_st1 (jm_st1 [(0, (2, 52)), (1, (2, 1)), (2, (2, 5)), (3, (0, D))] 4 (0, z1)) 5 (0, φ 1 7)) [(0, z10)] ψ10 y10 Q
            obtain ⟨hz11, ht11, hf11⟩ := H
            refine hw_if (a0 := 0) (b := 0) (e := 179) (by decide +kernel) hz11 (fun q => ?_) (fun q => ?_)
            · have H := ht11 q
              refine hw_k (c := 0) (b := 0) (e := 1) (by decide +kernel) ?_
              exact hw_ret (a0 := 0) (e := 1) (by decide +kernel) (Or.inr ⟨rfl, by decide⟩) H
            · have H := hf11 q
              refine hw_ald (b := 0) (e := 0) (by decide +kernel) (get_st1 (get_st1 rfl (by decide) (fun q => absurd q.1 (by decide))) (by decide) (fun q => absurd q.1 (by decide))) (by decide) ?_
              refine hw_ld (b := 5) (e := 1) (by decide +kernel) get_st1e ?_
              refine hw_k (c := 0) (b := 0) (e := 1) (by decide +kernel) ?_
              refine hw_k (c := 0) (b := 0) (e := 1) (by decide +kernel) ?_
              refine hr_call (a0 := 15) (b := 149) (e := 4) (nl := 4) (As := [(0, φ 1 7), (0, 0), (0, 0)]) (R := []) 52 rfl (by decide +kernel) rfl rfl (Nat.le_of_ble_eq_true rfl) (Nat.le_of_ble_eq_true rfl) ?_
              refine hw_mono H ?_
              rintro r ψ13 y13 ⟨hyx, z13, hr, H⟩
              subst hyx
              subst hr
              refine ⟨hne0, ?_⟩
              show hw sc (d + 6) 147 172 (jm_st1 (jm_st1 [(0, (2, 52)), (1, (2, 1)), (2, (2, 5)), (3, (0, D))] 4 (0, z1)) 5 (0, φ 1 7)) [(0, z13)] ψ13 y13 Q
              obtain ⟨hz14, ht14, hf14⟩ := H
              refine hw_if (a0 := 0) (b := 0) (e := 179) (by decide +kernel) hz14 (fun q => ?_) (fun q => ?_)
              · have H := ht14 q
                refine hw_k (c := 0) (b := 0) (e := 1) (by decide +kernel) ?_
                exact hw_ret (a0 := 0) (e := 1) (by decide +kernel) (Or.inr ⟨rfl, by decide⟩) H
              · have H := hf14 q
                refine hw_k (c := 1) (b := 0) (e := 1) (by decide +kernel) ?_
                refine hw_goto (a0 := 0) (b := 0) (e := 180) (by decide +kernel) ?_
                exact hw_ret (a0 := 0) (e := 1) (by decide +kernel) (Or.inr ⟨rfl, by decide⟩) H
          | 1, htq, hzq =>
            cases htq
            have H := H.2.1 (by omega)
            refine hw_ald (b := 0) (e := 0) (by decide +kernel) (get_st1 (get_st1 rfl (by decide) (fun q => absurd q.1 (by decide))) (by decide) (fun q => absurd q.1 (by decide))) (by decide) ?_
            refine hw_ld (b := 5) (e := 1) (by decide +kernel) get_st1e ?_
            refine hw_k (c := 0) (b := 0) (e := 1) (by decide +kernel) ?_
            refine hw_k (c := 0) (b := 0) (e := 1) (by decide +kernel) ?_
            refine hr_call (a0 := 15) (b := 149) (e := 4) (nl := 4) (As := [(0, φ 1 7), (0, 0), (0, 0)]) (R := []) 52 rfl (by decide +kernel) rfl rfl (Nat.le_of_ble_eq_true rfl) (Nat.le_of_ble_eq_true rfl) ?_
            refine hw_mono H ?_
            rintro r ψ17 y17 ⟨hyx, z17, hr, H⟩
            subst hyx
            subst hr
            refine ⟨hne0, ?_⟩
            show hw sc (d + 6) 147 217 (jm_st1 (jm_st1 [(0, (2, 52)), (1, (2, 1)), (2, (2, 5)), (3, (0, D))] 4 (0, z1)) 5 (0, φ 1 7)) [(0, z17)] ψ17 y17 Q
            exact hw_ret (a0 := 0) (e := 1) (by decide +kernel) (Or.inr ⟨rfl, H.1⟩) H.2
          | 2, htq, hzq =>
            cases htq
            have H := H.2.2.1 (by omega)
            refine hw_ald (b := 0) (e := 0) (by decide +kernel) (get_st1 (get_st1 rfl (by decide) (fun q => absurd q.1 (by decide))) (by decide) (fun q => absurd q.1 (by decide))) (by decide) ?_
            refine hw_ld (b := 5) (e := 1) (by decide +kernel) get_st1e ?_
            refine hw_k (c := 0) (b := 0) (e := 1) (by decide +kernel) ?_
            refine hw_k (c := 0) (b := 0) (e := 1) (by decide +kernel) ?_
            refine hr_call (a0 := 15) (b := 149) (e := 4) (nl := 4) (As := [(0, φ 1 7), (0, 0), (0, 0)]) (R := []) 52 rfl (by decide +kernel) rfl rfl (Nat.le_of_ble_eq_true rfl) (Nat.le_of_ble_eq_true rfl) ?_
            refine hw_mono H ?_
            rintro r ψ19 y19 ⟨hyx, z19, hr, H⟩
            subst hyx
            subst hr
            refine ⟨hne0, ?_⟩
            show hw sc (d + 6) 147 217 (jm_st1 (jm_st1 [(0, (2, 52)), (1, (2, 1)), (2, (2, 5)), (3, (0, D))] 4 (0, z1)) 5 (0, φ 1 7)) [(0, z19)] ψ19 y19 Q
            exact hw_ret (a0 := 0) (e := 1) (by decide +kernel) (Or.inr ⟨rfl, H.1⟩) H.2
          | 3, htq, hzq =>
            cases htq
            have H := H.2.2.2.1 (by omega)
            refine hw_ald (b := 0) (e := 0) (by decide +kernel) (get_st1 (get_st1 rfl (by decide) (fun q => absurd q.1 (by decide))) (by decide) (fun q => absurd q.1 (by decide))) (by decide) ?_
            refine hw_ld (b := 5) (e := 1) (by decide +kernel) get_st1e ?_
            refine hw_k (c := 0) (b := 0) (e := 1) (by decide +kernel) ?_
            refine hw_k (c := 0) (b := 0) (e := 1) (by decide +kernel) ?_
            refine hr_call (a0 := 15) (b := 149) (e := 4) (nl := 4) (As := [(0, φ 1 7), (0, 0), (0, 0)]) (R := []) 52 rfl (by decide +kernel) rfl rfl (Nat.le_of_ble_eq_true rfl) (Nat.le_of_ble_eq_true rfl) ?_
            refine hw_mono H ?_
            rintro r ψ21 y21 ⟨hyx, z21, hr, H⟩
            subst hyx
            subst hr
            refine ⟨hne0, ?_⟩
            show hw sc (d + 6) 147 217 (jm_st1 (jm_st1 [(0, (2, 52)), (1, (2, 1)), (2, (2, 5)), (3, (0, D))] 4 (0, z1)) 5 (0, φ 1 7)) [(0, z21)] ψ21 y21 Q
            exact hw_ret (a0 := 0) (e := 1) (by decide +kernel) (Or.inr ⟨rfl, H.1⟩) H.2
          | 4, htq, hzq =>
            cases htq
            have H := H.2.2.2.2.1 (by omega)
            refine hw_ald (b := 0) (e := 0) (by decide +kernel) (get_st1 (get_st1 rfl (by decide) (fun q => absurd q.1 (by decide))) (by decide) (fun q => absurd q.1 (by decide))) (by decide) ?_
            refine hw_ald (b := 1) (e := 0) (by decide +kernel) (get_st1 (get_st1 rfl (by decide) (fun q => absurd q.1 (by decide))) (by decide) (fun q => absurd q.1 (by decide))) (by decide) ?_
            refine hw_ald (b := 2) (e := 0) (by decide +kernel) (get_st1 (get_st1 rfl (by decide) (fun q => absurd q.1 (by decide))) (by decide) (fun q => absurd q.1 (by decide))) (by decide) ?_
            refine hw_ld (b := 5) (e := 1) (by decide +kernel) get_st1e ?_
            refine hw_k (c := 1) (b := 0) (e := 1) (by decide +kernel) ?_
            refine hr_call (a0 := 15) (b := 150) (e := 5) (nl := 6) (As := [(2, 1), (2, 5), (0, φ 1 7), (0, 1)]) (R := []) 52 rfl (by decide +kernel) rfl rfl (Nat.le_of_ble_eq_true rfl) (Nat.le_of_ble_eq_true rfl) ?_
            refine hw_mono H ?_
            rintro r ψ23 y23 ⟨hyx, z23, hr, H⟩
            subst hyx
            subst hr
            refine ⟨hne0, ?_⟩
            show hw sc (d + 6) 147 190 (jm_st1 (jm_st1 [(0, (2, 52)), (1, (2, 1)), (2, (2, 5)), (3, (0, D))] 4 (0, z1)) 5 (0, φ 1 7)) [(0, z23)] ψ23 y23 Q
            exact hw_ret (a0 := 0) (e := 1) (by decide +kernel) (Or.inr ⟨rfl, H.1⟩) H.2
          | 5, htq, hzq =>
            cases htq
            have H := H.2.2.2.2.2.1 (by omega)
            refine hw_ald (b := 0) (e := 0) (by decide +kernel) (get_st1 (get_st1 rfl (by decide) (fun q => absurd q.1 (by decide))) (by decide) (fun q => absurd q.1 (by decide))) (by decide) ?_
            refine hw_ald (b := 1) (e := 0) (by decide +kernel) (get_st1 (get_st1 rfl (by decide) (fun q => absurd q.1 (by decide))) (by decide) (fun q => absurd q.1 (by decide))) (by decide) ?_
            refine hw_ald (b := 2) (e := 0) (by decide +kernel) (get_st1 (get_st1 rfl (by decide) (fun q => absurd q.1 (by decide))) (by decide) (fun q => absurd q.1 (by decide))) (by decide) ?_
            refine hw_ld (b := 5) (e := 1) (by decide +kernel) get_st1e ?_
            refine hw_k (c := 2) (b := 0) (e := 1) (by decide +kernel) ?_
            refine hr_call (a0 := 15) (b := 150) (e := 5) (nl := 6) (As := [(2, 1), (2, 5), (0, φ 1 7), (0, 2)]) (R := []) 52 rfl (by decide +kernel) rfl rfl (Nat.le_of_ble_eq_true rfl) (Nat.le_of_ble_eq_true rfl) ?_
            refine hw_mono H ?_
            rintro r ψ25 y25 ⟨hyx, z25, hr, H⟩
            subst hyx
            subst hr
            refine ⟨hne0, ?_⟩
            show hw sc (d + 6) 147 200 (jm_st1 (jm_st1 [(0, (2, 52)), (1, (2, 1)), (2, (2, 5)), (3, (0, D))] 4 (0, z1)) 5 (0, φ 1 7)) [(0, z25)] ψ25 y25 Q
            exact hw_ret (a0 := 0) (e := 1) (by decide +kernel) (Or.inr ⟨rfl, H.1⟩) H.2
          | 6, htq, hzq =>
            cases htq
            have H := H.2.2.2.2.2.2.1 (by omega)
            refine hw_ald (b := 0) (e := 0) (by decide +kernel) (get_st1 (get_st1 rfl (by decide) (fun q => absurd q.1 (by decide))) (by decide) (fun q => absurd q.1 (by decide))) (by decide) ?_
            refine hw_ald (b := 1) (e := 0) (by decide +kernel) (get_st1 (get_st1 rfl (by decide) (fun q => absurd q.1 (by decide))) (by decide) (fun q => absurd q.1 (by decide))) (by decide) ?_
            refine hw_ld (b := 5) (e := 1) (by decide +kernel) get_st1e ?_
            refine hr_call (a0 := 15) (b := 151) (e := 3) (nl := 5) (As := [(2, 1), (0, φ 1 7)]) (R := []) 52 rfl (by decide +kernel) rfl rfl (Nat.le_of_ble_eq_true rfl) (Nat.le_of_ble_eq_true rfl) ?_
            refine hw_mono H ?_
            rintro r ψ27 y27 ⟨hyx, z27, hr, H⟩
            subst hyx
            subst hr
            refine ⟨hne0, ?_⟩
            show hw sc (d + 6) 147 208 (jm_st1 (jm_st1 [(0, (2, 52)), (1, (2, 1)), (2, (2, 5)), (3, (0, D))] 4 (0, z1)) 5 (0, φ 1 7)) [(0, z27)] ψ27 y27 Q
            exact hw_ret (a0 := 0) (e := 1) (by decide +kernel) (Or.inr ⟨rfl, H.1⟩) H.2
          | 7, htq, hzq =>
            cases htq
            have H := H.2.2.2.2.2.2.2.1 (by omega)
            refine hw_ald (b := 0) (e := 0) (by decide +kernel) (get_st1 (get_st1 rfl (by decide) (fun q => absurd q.1 (by decide))) (by decide) (fun q => absurd q.1 (by decide))) (by decide) ?_
            refine hw_ald (b := 1) (e := 0) (by decide +kernel) (get_st1 (get_st1 rfl (by decide) (fun q => absurd q.1 (by decide))) (by decide) (fun q => absurd q.1 (by decide))) (by decide) ?_
            refine hw_ld (b := 5) (e := 1) (by decide +kernel) get_st1e ?_
            refine hr_call (a0 := 15) (b := 151) (e := 3) (nl := 5) (As := [(2, 1), (0, φ 1 7)]) (R := []) 52 rfl (by decide +kernel) rfl rfl (Nat.le_of_ble_eq_true rfl) (Nat.le_of_ble_eq_true rfl) ?_
            refine hw_mono H ?_
            rintro r ψ29 y29 ⟨hyx, z29, hr, H⟩
            subst hyx
            subst hr
            refine ⟨hne0, ?_⟩
            show hw sc (d + 6) 147 208 (jm_st1 (jm_st1 [(0, (2, 52)), (1, (2, 1)), (2, (2, 5)), (3, (0, D))] 4 (0, z1)) 5 (0, φ 1 7)) [(0, z29)] ψ29 y29 Q
            exact hw_ret (a0 := 0) (e := 1) (by decide +kernel) (Or.inr ⟨rfl, H.1⟩) H.2
          | 8, htq, hzq =>
            cases htq
            have H := H.2.2.2.2.2.2.2.2.1 (by omega)
            refine hw_ald (b := 0) (e := 0) (by decide +kernel) (get_st1 (get_st1 rfl (by decide) (fun q => absurd q.1 (by decide))) (by decide) (fun q => absurd q.1 (by decide))) (by decide) ?_
            refine hw_ald (b := 1) (e := 0) (by decide +kernel) (get_st1 (get_st1 rfl (by decide) (fun q => absurd q.1 (by decide))) (by decide) (fun q => absurd q.1 (by decide))) (by decide) ?_
            refine hw_ld (b := 5) (e := 1) (by decide +kernel) get_st1e ?_
            refine hr_call (a0 := 15) (b := 151) (e := 3) (nl := 5) (As := [(2, 1), (0, φ 1 7)]) (R := []) 52 rfl (by decide +kernel) rfl rfl (Nat.le_of_ble_eq_true rfl) (Nat.le_of_ble_eq_true rfl) ?_
            refine hw_mono H ?_
            rintro r ψ31 y31 ⟨hyx, z31, hr, H⟩
            subst hyx
            subst hr
            refine ⟨hne0, ?_⟩
            show hw sc (d + 6) 147 208 (jm_st1 (jm_st1 [(0, (2, 52)), (1, (2, 1)), (2, (2, 5)), (3, (0, D))] 4 (0, z1)) 5 (0, φ 1 7)) [(0, z31)] ψ31 y31 Q
            exact hw_ret (a0 := 0) (e := 1) (by decide +kernel) (Or.inr ⟨rfl, H.1⟩) H.2
          | kq + 9, htq, _ => cases htq
      · have H := hf8 q
        refine hw_ald (b := 0) (e := 0) (by decide +kernel) (get_st1 (get_st1 rfl (by decide) (fun q => absurd q.1 (by decide))) (by decide) (fun q => absurd q.1 (by decide))) (by decide) ?_
        refine hw_ald (b := 1) (e := 0) (by decide +kernel) (get_st1 (get_st1 rfl (by decide) (fun q => absurd q.1 (by decide))) (by decide) (fun q => absurd q.1 (by decide))) (by decide) ?_
        refine hw_ald (b := 2) (e := 0) (by decide +kernel) (get_st1 (get_st1 rfl (by decide) (fun q => absurd q.1 (by decide))) (by decide) (fun q => absurd q.1 (by decide))) (by decide) ?_
        refine hw_ld (b := 3) (e := 0) (by decide +kernel) (get_st1 (get_st1 rfl (by decide) (fun q => tg0 q.2)) (by decide) (fun q => absurd q.1 (by decide))) ?_
        refine hw_k (c := 1) (b := 0) (e := 1) (by decide +kernel) ?_
        refine hw_bin (w := (D + 1)) (a0 := 0) (b := 0) (e := 0) (by decide +kernel) rfl ?_
        refine hr_call (a0 := 15) (b := 146) (e := 4) (nl := 7) (As := [(2, 1), (2, 5), (0, (D + 1))]) (R := []) 52 rfl (by decide +kernel) rfl rfl (Nat.le_of_ble_eq_true rfl) (Nat.le_of_ble_eq_true rfl) ?_
        refine hw_mono H ?_
        rintro r ψ35 y35 ⟨hyx, z35, hr, H⟩
        subst hyx
        subst hr
        refine ⟨hne0, ?_⟩
        show hw sc (d + 6) 147 81 (jm_st1 (jm_st1 [(0, (2, 52)), (1, (2, 1)), (2, (2, 5)), (3, (0, D))] 4 (0, z1)) 5 (0, φ 1 7)) [(0, z35)] ψ35 y35 Q
        obtain ⟨hz36, ht36, hf36⟩ := H
        refine hw_if (a0 := 0) (b := 0) (e := 97) (by decide +kernel) hz36 (fun q => ?_) (fun q => ?_)
        · have H := ht36 q
          refine hw_k (c := 0) (b := 0) (e := 1) (by decide +kernel) ?_
          exact hw_ret (a0 := 0) (e := 1) (by decide +kernel) (Or.inr ⟨rfl, by decide⟩) H
        · have H := hf36 q
          refine hw_ald (b := 1) (e := 0) (by decide +kernel) (get_st1 (get_st1 rfl (by decide) (fun q => absurd q.1 (by decide))) (by decide) (fun q => absurd q.1 (by decide))) (by decide) ?_
          refine hw_k (c := 41) (b := 1) (e := 2) (by decide +kernel) ?_
          refine hr_call (a0 := 11) (b := 60) (e := 2) (nl := 2) (As := [(0, 41)]) (R := []) 1 rfl (by decide +kernel) rfl rfl (Nat.le_of_ble_eq_true rfl) (Nat.le_of_ble_eq_true rfl) ?_
          refine hw_mono H ?_
          rintro r ψ38 y38 ⟨hyx, z38, hr, H⟩
          subst hyx
          subst hr
          refine ⟨hne0, ?_⟩
          show hw sc (d + 6) 147 90 (jm_st1 (jm_st1 [(0, (2, 52)), (1, (2, 1)), (2, (2, 5)), (3, (0, D))] 4 (0, z1)) 5 (0, φ 1 7)) [(0, z38)] ψ38 y38 Q
          obtain ⟨hz39, ht39, hf39⟩ := H
          refine hw_if (a0 := 0) (b := 0) (e := 97) (by decide +kernel) hz39 (fun q => ?_) (fun q => ?_)
          · have H := ht39 q
            refine hw_k (c := 0) (b := 0) (e := 1) (by decide +kernel) ?_
            exact hw_ret (a0 := 0) (e := 1) (by decide +kernel) (Or.inr ⟨rfl, by decide⟩) H
          · have H := hf39 q
            refine hw_k (c := 1) (b := 0) (e := 1) (by decide +kernel) ?_
            refine hw_goto (a0 := 0) (b := 0) (e := 98) (by decide +kernel) ?_
            exact hw_ret (a0 := 0) (e := 1) (by decide +kernel) (Or.inr ⟨rfl, by decide⟩) H
  · have H := hf2 q
    refine hw_ald (b := 1) (e := 0) (by decide +kernel) (get_st1 rfl (by decide) (fun q => absurd q.1 (by decide))) (by decide) ?_
    refine hr_calls (b := 148) (e := 1) (nl := 1) (As := [(2, 1)]) (R := []) (by decide +kernel) rfl rfl (Nat.le_of_ble_eq_true rfl) (Nat.le_of_ble_eq_true rfl) ?_
    refine hw_mono H ?_
    rintro r ψ42 y42 ⟨hyx, hψx, z42, hr, H⟩
    subst hyx
    subst hψx
    subst hr
    refine ⟨hne0, ?_⟩
    show hw sc (d + 6) 147 17 (jm_st1 [(0, (2, 52)), (1, (2, 1)), (2, (2, 5)), (3, (0, D))] 4 (0, z1)) [(0, z42)] φ y42 Q
    obtain ⟨hz43, ht43, hf43⟩ := H
    refine hw_if (a0 := 0) (b := 1) (e := 26) (by decide +kernel) hz43 (fun q => ?_) (fun q => ?_)
    · have H := ht43 q
      refine hw_ald (b := 0) (e := 0) (by decide +kernel) (get_st1 rfl (by decide) (fun q => absurd q.1 (by decide))) (by decide) ?_
      refine hr_gi (w := φ 52 4) (b := 5) (e := 4) 52 rfl (by decide +kernel) rfl ?_
      refine hw_k (c := 20) (b := 1) (e := 2) (by decide +kernel) ?_
      obtain ⟨hz44, hy44, ht44, hf44⟩ := H
      refine hw_if2 (a0 := 0) (b := 3) (e := 41) (by decide +kernel) hz44 hy44 (fun q => ?_) (fun q => ?_)
      · have H := ht44 q
        refine hw_ald (b := 1) (e := 0) (by decide +kernel) (get_st1 rfl (by decide) (fun q => absurd q.1 (by decide))) (by decide) ?_
        refine hw_k (c := 4) (b := 0) (e := 1) (by decide +kernel) ?_
        refine hr_call (a0 := 11) (b := 37) (e := 2) (nl := 2) (As := [(0, 4)]) (R := []) 1 rfl (by decide +kernel) rfl rfl (Nat.le_of_ble_eq_true rfl) (Nat.le_of_ble_eq_true rfl) ?_
        refine hw_mono H ?_
        rintro r ψ45 y45 ⟨hyx, z45, hr, H⟩
        subst hyx
        subst hr
        refine ⟨hne0, ?_⟩
        show hw sc (d + 6) 147 46 (jm_st1 [(0, (2, 52)), (1, (2, 1)), (2, (2, 5)), (3, (0, D))] 4 (0, z1)) [(0, z45)] ψ45 y45 Q
        exact hw_ret (a0 := 0) (e := 1) (by decide +kernel) (Or.inr ⟨rfl, H.1⟩) H.2
      · have H := hf44 q
        refine hw_ld (b := 3) (e := 0) (by decide +kernel) (get_st1 rfl (by decide) (fun q => tg0 q.2)) ?_
        refine hw_k (c := 8) (b := 1) (e := 2) (by decide +kernel) ?_
        refine hw_if2 (a0 := 0) (b := 5) (e := 47) (by decide +kernel) (by unfold hi; omega) (by unfold hi; omega) (fun _ => ?_) (fun q => absurd (show (D : Int) ≤ 8 from hD2) q)
        refine hw_ald (b := 0) (e := 0) (by decide +kernel) (get_st1 rfl (by decide) (fun q => absurd q.1 (by decide))) (by decide) ?_
        refine hw_dup (a0 := 0) (e := 0) (by decide +kernel) (by decide) ?_
        refine hr_gi (w := φ 52 4) (b := 5) (e := 4) 52 rfl (by decide +kernel) rfl ?_
        refine hw_k (c := 1) (b := 0) (e := 1) (by decide +kernel) ?_
        refine hw_bin (w := (φ 52 4) + 1) (a0 := 0) (b := 0) (e := 0) (by decide +kernel) rfl ?_
        refine hr_pi (b := 5) (e := 4) 52 rfl (by decide +kernel) ?_
        refine hw_ald (b := 1) (e := 0) (by decide +kernel) (get_st1 rfl (by decide) (fun q => absurd q.1 (by decide))) (by decide) ?_
        refine hr_gi (w := φ 1 7) (b := 1) (e := 7) 1 rfl (by decide +kernel) (hf_up_ne (fun q => absurd q.1 (by decide))) ?_
        refine hw_st (L' := (jm_st1 (jm_st1 [(0, (2, 52)), (1, (2, 1)), (2, (2, 5)), (3, (0, D))] 4 (0, z1)) 5 (0, φ 1 7))) (b := 5) (e := 1) (by decide +kernel) rfl ?_
        refine hw_ald (b := 1) (e := 0) (by decide +kernel) (get_st1 (get_st1 rfl (by decide) (fun q => absurd q.1 (by decide))) (by decide) (fun q => absurd q.1 (by decide))) (by decide) ?_
        refine hr_call (a0 := 11) (b := 29) (e := 1) (nl := 1) (As := []) (R := []) 1 rfl (by decide +kernel) rfl rfl (Nat.le_of_ble_eq_true rfl) (Nat.le_of_ble_eq_true rfl) ?_
        refine hw_mono H ?_
        rintro r ψ48 y48 ⟨hyx, hr, H⟩
        subst hyx
        subst hr
        refine ⟨hnen, ?_⟩
        show hw sc (d + 6) 147 67 (jm_st1 (jm_st1 [(0, (2, 52)), (1, (2, 1)), (2, (2, 5)), (3, (0, D))] 4 (0, z1)) 5 (0, φ 1 7)) [] ψ48 y48 Q
        refine hw_ld (b := 4) (e := 1) (by decide +kernel) (get_st1 get_st1e (by decide) (fun q => tg0 q.2)) ?_
        obtain ⟨hz49, ht49, hf49⟩ := H
        refine hw_if (a0 := 0) (b := 0) (e := 99) (by decide +kernel) hz49 (fun q => ?_) (fun q => ?_)
        · have H := ht49 q
          refine hw_ld (b := 5) (e := 1) (by decide +kernel) get_st1e ?_
          obtain ⟨hz50, H⟩ := H
          refine hr_tsw (T := [152, 209, 209, 209, 181, 191, 201, 201, 201]) (lo := 14) (nn := 23) (b := 209) (e := 5) (by decide +kernel) rfl hz50 ?_ ?_
          · intro q
            have H := H.2.2.2.2.2.2.2.2.2 q
            refine hw_ald (b := 0) (e := 0) (by decide +kernel) (get_st1 (get_st1 rfl (by decide) (fun q => absurd q.1 (by decide))) (by decide) (fun q => absurd q.1 (by decide))) (by decide) ?_
            refine hw_ld (b := 5) (e := 1) (by decide +kernel) get_st1e ?_
            refine hw_k (c := 0) (b := 0) (e := 1) (by decide +kernel) ?_
            refine hw_k (c := 0) (b := 0) (e := 1) (by decide +kernel) ?_
            refine hr_call (a0 := 15) (b := 149) (e := 4) (nl := 4) (As := [(0, φ 1 7), (0, 0), (0, 0)]) (R := []) 52 rfl (by decide +kernel) rfl rfl (Nat.le_of_ble_eq_true rfl) (Nat.le_of_ble_eq_true rfl) ?_
            refine hw_mono H ?_
            rintro r ψ74 y74 ⟨hyx, z74, hr, H⟩
            subst hyx
            subst hr
            refine ⟨hne0, ?_⟩
            show hw sc (d + 6) 147 217 (jm_st1 (jm_st1 [(0, (2, 52)), (1, (2, 1)), (2, (2, 5)), (3, (0, D))] 4 (0, z1)) 5 (0, φ 1 7)) [(0, z74)] ψ74 y74 Q
            exact hw_ret (a0 := 0) (e := 1) (by decide +kernel) (Or.inr ⟨rfl, H.1⟩) H.2
          · intro kq tq htq hzq
            match kq, htq, hzq with
            | 0, htq, hzq =>
              cases htq
              have H := H.1 (by omega)
              refine hw_ald (b := 0) (e := 0) (by decide +kernel) (get_st1 (get_st1 rfl (by decide) (fun q => absurd q.1 (by decide))) (by decide) (fun q => absurd q.1 (by decide))) (by decide) ?_
              refine hw_ald (b := 1) (e := 0) (by decide +kernel) (get_st1 (get_st1 rfl (by decide) (fun q => absurd q.1 (by decide))) (by decide) (fun q => absurd q.1 (by decide))) (by decide) ?_
              refine hw_ald (b := 2) (e := 0) (by decide +kernel) (get_st1 (get_st1 rfl (by decide) (fun q => absurd q.1 (by decide))) (by decide) (fun q => absurd q.1 (by decide))) (by decide) ?_
              refine hw_ld (b := 3) (e := 0) (by decide +kernel) (get_st1 (get_st1 rfl (by decide) (fun q => tg0 q.2)) (by decide) (fun q => absurd q.1 (by decide))) ?_
              refine hw_k (c := 1) (b := 0) (e := 1) (by decide +kernel) ?_
              refine hw_bin (w := (D + 1)) (a0 := 0) (b := 0) (e := 0) (by decide +kernel) rfl ?_
              refine hr_call (a0 := 15) (b := 147) (e := 4) (nl := 6) (As := [(2, 1), (2, 5), (0, (D + 1))]) (R := []) 52 rfl (by decide +kernel) rfl rfl (Nat.le_of_ble_eq_true rfl) (Nat.le_of_ble_eq_true rfl) ?_
              refine hw_mono H ?_
              rintro r ψ51 y51 ⟨hyx, z51, hr, H⟩
              subst hyx
              subst hr
              refine ⟨hne0, ?_⟩
              show hw sc (d + 6) 147 161 (jm_st1 (jm_st1 [(0, (2, 52)), (1, (2, 1)), (2, (2, 5)), (3, (0, D))] 4 (0, z1)) 5 (0, φ 1 7)) [(0, z51)] ψ51 y51 Q
              obtain ⟨hz52, ht52, hf52⟩ := H
              refine hw_if (a0 := 0) (b := 0) (e := 179) (by decide +kernel) hz52 (fun q => ?_) (fun q => ?_)
              · have H := ht52 q
                refine hw_k (c := 0) (b := 0) (e := 1) (by decide +kernel) ?_
                exact hw_ret (a0 := 0) (e := 1) (by decide +kernel) (Or.inr ⟨rfl, by decide⟩) H
              · have H := hf52 q
                refine hw_ald (b := 0) (e := 0) (by decide +kernel) (get_st1 (get_st1 rfl (by decide) (fun q => absurd q.1 (by decide))) (by decide) (fun q => absurd q.1 (by decide))) (by decide) ?_
                refine hw_ld (b := 5) (e := 1) (by decide +kernel) get_st1e ?_
                refine hw_k (c := 0) (b := 0) (e := 1) (by decide +kernel) ?_
                refine hw_k (c := 0) (b := 0) (e := 1) (by decide +kernel) ?_
                refine hr_call (a0 := 15) (b := 149) (e := 4) (nl := 4) (As := [(0, φ 1 7), (0, 0), (0, 0)]) (R := []) 52 rfl (by decide +kernel) rfl rfl (Nat.le_of_ble_eq_true rfl) (Nat.le_of_ble_eq_true rfl) ?_
                refine hw_mono H ?_
                rintro r ψ54 y54 ⟨hyx, z54, hr, H⟩
                subst hyx
                subst hr
                refine ⟨hne0, ?_⟩
                show hw sc (d + 6) 147 172 (jm_st1 (jm_st1 [(0, (2, 52)), (1, (2, 1)), (2, (2, 5)), (3, (0, D))] 4 (0, z1)) 5 (0, φ 1 7)) [(0, z54)] ψ54 y54 Q
                obtain ⟨hz55, ht55, hf55⟩ := H
                refine hw_if (a0 := 0) (b := 0) (e := 179) (by decide +kernel) hz55 (fun q => ?_) (fun q => ?_)
                · have H := ht55 q
                  refine hw_k (c := 0) (b := 0) (e := 1) (by decide +kernel) ?_
                  exact hw_ret (a0 := 0) (e := 1) (by decide +kernel) (Or.inr ⟨rfl, by decide⟩) H
                · have H := hf55 q
                  refine hw_k (c := 1) (b := 0) (e := 1) (by decide +kernel) ?_
                  refine hw_goto (a0 := 0) (b := 0) (e := 180) (by decide +kernel) ?_
                  exact hw_ret (a0 := 0) (e := 1) (by decide +kernel) (Or.inr ⟨rfl, by decide⟩) H
            | 1, htq, hzq =>
              cases htq
              have H := H.2.1 (by omega)
              refine hw_ald (b := 0) (e := 0) (by decide +kernel) (get_st1 (get_st1 rfl (by decide) (fun q => absurd q.1 (by decide))) (by decide) (fun q => absurd q.1 (by decide))) (by decide) ?_
              refine hw_ld (b := 5) (e := 1) (by decide +kernel) get_st1e ?_
              refine hw_k (c := 0) (b := 0) (e := 1) (by decide +kernel) ?_
              refine hw_k (c := 0) (b := 0) (e := 1) (by decide +kernel) ?_
              refine hr_call (a0 := 15) (b := 149) (e := 4) (nl := 4) (As := [(0, φ 1 7), (0, 0), (0, 0)]) (R := []) 52 rfl (by decide +kernel) rfl rfl (Nat.le_of_ble_eq_true rfl) (Nat.le_of_ble_eq_true rfl) ?_
              refine hw_mono H ?_
              rintro r ψ58 y58 ⟨hyx, z58, hr, H⟩
              subst hyx
              subst hr
              refine ⟨hne0, ?_⟩
              show hw sc (d + 6) 147 217 (jm_st1 (jm_st1 [(0, (2, 52)), (1, (2, 1)), (2, (2, 5)), (3, (0, D))] 4 (0, z1)) 5 (0, φ 1 7)) [(0, z58)] ψ58 y58 Q
              exact hw_ret (a0 := 0) (e := 1) (by decide +kernel) (Or.inr ⟨rfl, H.1⟩) H.2
            | 2, htq, hzq =>
              cases htq
              have H := H.2.2.1 (by omega)
              refine hw_ald (b := 0) (e := 0) (by decide +kernel) (get_st1 (get_st1 rfl (by decide) (fun q => absurd q.1 (by decide))) (by decide) (fun q => absurd q.1 (by decide))) (by decide) ?_
              refine hw_ld (b := 5) (e := 1) (by decide +kernel) get_st1e ?_
              refine hw_k (c := 0) (b := 0) (e := 1) (by decide +kernel) ?_
              refine hw_k (c := 0) (b := 0) (e := 1) (by decide +kernel) ?_
              refine hr_call (a0 := 15) (b := 149) (e := 4) (nl := 4) (As := [(0, φ 1 7), (0, 0), (0, 0)]) (R := []) 52 rfl (by decide +kernel) rfl rfl (Nat.le_of_ble_eq_true rfl) (Nat.le_of_ble_eq_true rfl) ?_
              refine hw_mono H ?_
              rintro r ψ60 y60 ⟨hyx, z60, hr, H⟩
              subst hyx
              subst hr
              refine ⟨hne0, ?_⟩
              show hw sc (d + 6) 147 217 (jm_st1 (jm_st1 [(0, (2, 52)), (1, (2, 1)), (2, (2, 5)), (3, (0, D))] 4 (0, z1)) 5 (0, φ 1 7)) [(0, z60)] ψ60 y60 Q
              exact hw_ret (a0 := 0) (e := 1) (by decide +kernel) (Or.inr ⟨rfl, H.1⟩) H.2
            | 3, htq, hzq =>
              cases htq
              have H := H.2.2.2.1 (by omega)
              refine hw_ald (b := 0) (e := 0) (by decide +kernel) (get_st1 (get_st1 rfl (by decide) (fun q => absurd q.1 (by decide))) (by decide) (fun q => absurd q.1 (by decide))) (by decide) ?_
              refine hw_ld (b := 5) (e := 1) (by decide +kernel) get_st1e ?_
              refine hw_k (c := 0) (b := 0) (e := 1) (by decide +kernel) ?_
              refine hw_k (c := 0) (b := 0) (e := 1) (by decide +kernel) ?_
              refine hr_call (a0 := 15) (b := 149) (e := 4) (nl := 4) (As := [(0, φ 1 7), (0, 0), (0, 0)]) (R := []) 52 rfl (by decide +kernel) rfl rfl (Nat.le_of_ble_eq_true rfl) (Nat.le_of_ble_eq_true rfl) ?_
              refine hw_mono H ?_
              rintro r ψ62 y62 ⟨hyx, z62, hr, H⟩
              subst hyx
              subst hr
              refine ⟨hne0, ?_⟩
              show hw sc (d + 6) 147 217 (jm_st1 (jm_st1 [(0, (2, 52)), (1, (2, 1)), (2, (2, 5)), (3, (0, D))] 4 (0, z1)) 5 (0, φ 1 7)) [(0, z62)] ψ62 y62 Q
              exact hw_ret (a0 := 0) (e := 1) (by decide +kernel) (Or.inr ⟨rfl, H.1⟩) H.2
            | 4, htq, hzq =>
              cases htq
              have H := H.2.2.2.2.1 (by omega)
              refine hw_ald (b := 0) (e := 0) (by decide +kernel) (get_st1 (get_st1 rfl (by decide) (fun q => absurd q.1 (by decide))) (by decide) (fun q => absurd q.1 (by decide))) (by decide) ?_
              refine hw_ald (b := 1) (e := 0) (by decide +kernel) (get_st1 (get_st1 rfl (by decide) (fun q => absurd q.1 (by decide))) (by decide) (fun q => absurd q.1 (by decide))) (by decide) ?_
              refine hw_ald (b := 2) (e := 0) (by decide +kernel) (get_st1 (get_st1 rfl (by decide) (fun q => absurd q.1 (by decide))) (by decide) (fun q => absurd q.1 (by decide))) (by decide) ?_
              refine hw_ld (b := 5) (e := 1) (by decide +kernel) get_st1e ?_
              refine hw_k (c := 1) (b := 0) (e := 1) (by decide +kernel) ?_
              refine hr_call (a0 := 15) (b := 150) (e := 5) (nl := 6) (As := [(2, 1), (2, 5), (0, φ 1 7), (0, 1)]) (R := []) 52 rfl (by decide +kernel) rfl rfl (Nat.le_of_ble_eq_true rfl) (Nat.le_of_ble_eq_true rfl) ?_
              refine hw_mono H ?_
              rintro r ψ64 y64 ⟨hyx, z64, hr, H⟩
              subst hyx
              subst hr
              refine ⟨hne0, ?_⟩
              show hw sc (d + 6) 147 190 (jm_st1 (jm_st1 [(0, (2, 52)), (1, (2, 1)), (2, (2, 5)), (3, (0, D))] 4 (0, z1)) 5 (0, φ 1 7)) [(0, z64)] ψ64 y64 Q
              exact hw_ret (a0 := 0) (e := 1) (by decide +kernel) (Or.inr ⟨rfl, H.1⟩) H.2
            | 5, htq, hzq =>
              cases htq
              have H := H.2.2.2.2.2.1 (by omega)
              refine hw_ald (b := 0) (e := 0) (by decide +kernel) (get_st1 (get_st1 rfl (by decide) (fun q => absurd q.1 (by decide))) (by decide) (fun q => absurd q.1 (by decide))) (by decide) ?_
              refine hw_ald (b := 1) (e := 0) (by decide +kernel) (get_st1 (get_st1 rfl (by decide) (fun q => absurd q.1 (by decide))) (by decide) (fun q => absurd q.1 (by decide))) (by decide) ?_
              refine hw_ald (b := 2) (e := 0) (by decide +kernel) (get_st1 (get_st1 rfl (by decide) (fun q => absurd q.1 (by decide))) (by decide) (fun q => absurd q.1 (by decide))) (by decide) ?_
              refine hw_ld (b := 5) (e := 1) (by decide +kernel) get_st1e ?_
              refine hw_k (c := 2) (b := 0) (e := 1) (by decide +kernel) ?_
              refine hr_call (a0 := 15) (b := 150) (e := 5) (nl := 6) (As := [(2, 1), (2, 5), (0, φ 1 7), (0, 2)]) (R := []) 52 rfl (by decide +kernel) rfl rfl (Nat.le_of_ble_eq_true rfl) (Nat.le_of_ble_eq_true rfl) ?_
              refine hw_mono H ?_
              rintro r ψ66 y66 ⟨hyx, z66, hr, H⟩
              subst hyx
              subst hr
              refine ⟨hne0, ?_⟩
              show hw sc (d + 6) 147 200 (jm_st1 (jm_st1 [(0, (2, 52)), (1, (2, 1)), (2, (2, 5)), (3, (0, D))] 4 (0, z1)) 5 (0, φ 1 7)) [(0, z66)] ψ66 y66 Q
              exact hw_ret (a0 := 0) (e := 1) (by decide +kernel) (Or.inr ⟨rfl, H.1⟩) H.2
            | 6, htq, hzq =>
              cases htq
              have H := H.2.2.2.2.2.2.1 (by omega)
              refine hw_ald (b := 0) (e := 0) (by decide +kernel) (get_st1 (get_st1 rfl (by decide) (fun q => absurd q.1 (by decide))) (by decide) (fun q => absurd q.1 (by decide))) (by decide) ?_
              refine hw_ald (b := 1) (e := 0) (by decide +kernel) (get_st1 (get_st1 rfl (by decide) (fun q => absurd q.1 (by decide))) (by decide) (fun q => absurd q.1 (by decide))) (by decide) ?_
              refine hw_ld (b := 5) (e := 1) (by decide +kernel) get_st1e ?_
              refine hr_call (a0 := 15) (b := 151) (e := 3) (nl := 5) (As := [(2, 1), (0, φ 1 7)]) (R := []) 52 rfl (by decide +kernel) rfl rfl (Nat.le_of_ble_eq_true rfl) (Nat.le_of_ble_eq_true rfl) ?_
              refine hw_mono H ?_
              rintro r ψ68 y68 ⟨hyx, z68, hr, H⟩
              subst hyx
              subst hr
              refine ⟨hne0, ?_⟩
              show hw sc (d + 6) 147 208 (jm_st1 (jm_st1 [(0, (2, 52)), (1, (2, 1)), (2, (2, 5)), (3, (0, D))] 4 (0, z1)) 5 (0, φ 1 7)) [(0, z68)] ψ68 y68 Q
              exact hw_ret (a0 := 0) (e := 1) (by decide +kernel) (Or.inr ⟨rfl, H.1⟩) H.2
            | 7, htq, hzq =>
              cases htq
              have H := H.2.2.2.2.2.2.2.1 (by omega)
              refine hw_ald (b := 0) (e := 0) (by decide +kernel) (get_st1 (get_st1 rfl (by decide) (fun q => absurd q.1 (by decide))) (by decide) (fun q => absurd q.1 (by decide))) (by decide) ?_
              refine hw_ald (b := 1) (e := 0) (by decide +kernel) (get_st1 (get_st1 rfl (by decide) (fun q => absurd q.1 (by decide))) (by decide) (fun q => absurd q.1 (by decide))) (by decide) ?_
              refine hw_ld (b := 5) (e := 1) (by decide +kernel) get_st1e ?_
              refine hr_call (a0 := 15) (b := 151) (e := 3) (nl := 5) (As := [(2, 1), (0, φ 1 7)]) (R := []) 52 rfl (by decide +kernel) rfl rfl (Nat.le_of_ble_eq_true rfl) (Nat.le_of_ble_eq_true rfl) ?_
              refine hw_mono H ?_
              rintro r ψ70 y70 ⟨hyx, z70, hr, H⟩
              subst hyx
              subst hr
              refine ⟨hne0, ?_⟩
              show hw sc (d + 6) 147 208 (jm_st1 (jm_st1 [(0, (2, 52)), (1, (2, 1)), (2, (2, 5)), (3, (0, D))] 4 (0, z1)) 5 (0, φ 1 7)) [(0, z70)] ψ70 y70 Q
              exact hw_ret (a0 := 0) (e := 1) (by decide +kernel) (Or.inr ⟨rfl, H.1⟩) H.2
            | 8, htq, hzq =>
              cases htq
              have H := H.2.2.2.2.2.2.2.2.1 (by omega)
              refine hw_ald (b := 0) (e := 0) (by decide +kernel) (get_st1 (get_st1 rfl (by decide) (fun q => absurd q.1 (by decide))) (by decide) (fun q => absurd q.1 (by decide))) (by decide) ?_
              refine hw_ald (b := 1) (e := 0) (by decide +kernel) (get_st1 (get_st1 rfl (by decide) (fun q => absurd q.1 (by decide))) (by decide) (fun q => absurd q.1 (by decide))) (by decide) ?_
              refine hw_ld (b := 5) (e := 1) (by decide +kernel) get_st1e ?_
              refine hr_call (a0 := 15) (b := 151) (e := 3) (nl := 5) (As := [(2, 1), (0, φ 1 7)]) (R := []) 52 rfl (by decide +kernel) rfl rfl (Nat.le_of_ble_eq_true rfl) (Nat.le_of_ble_eq_true rfl) ?_
              refine hw_mono H ?_
              rintro r ψ72 y72 ⟨hyx, z72, hr, H⟩
              subst hyx
              subst hr
              refine ⟨hne0, ?_⟩
              show hw sc (d + 6) 147 208 (jm_st1 (jm_st1 [(0, (2, 52)), (1, (2, 1)), (2, (2, 5)), (3, (0, D))] 4 (0, z1)) 5 (0, φ 1 7)) [(0, z72)] ψ72 y72 Q
              exact hw_ret (a0 := 0) (e := 1) (by decide +kernel) (Or.inr ⟨rfl, H.1⟩) H.2
            | kq + 9, htq, _ => cases htq
        · have H := hf49 q
          refine hw_ald (b := 0) (e := 0) (by decide +kernel) (get_st1 (get_st1 rfl (by decide) (fun q => absurd q.1 (by decide))) (by decide) (fun q => absurd q.1 (by decide))) (by decide) ?_
          refine hw_ald (b := 1) (e := 0) (by decide +kernel) (get_st1 (get_st1 rfl (by decide) (fun q => absurd q.1 (by decide))) (by decide) (fun q => absurd q.1 (by decide))) (by decide) ?_
          refine hw_ald (b := 2) (e := 0) (by decide +kernel) (get_st1 (get_st1 rfl (by decide) (fun q => absurd q.1 (by decide))) (by decide) (fun q => absurd q.1 (by decide))) (by decide) ?_
          refine hw_ld (b := 3) (e := 0) (by decide +kernel) (get_st1 (get_st1 rfl (by decide) (fun q => tg0 q.2)) (by decide) (fun q => absurd q.1 (by decide))) ?_
          refine hw_k (c := 1) (b := 0) (e := 1) (by decide +kernel) ?_
          refine hw_bin (w := (D + 1)) (a0 := 0) (b := 0) (e := 0) (by decide +kernel) rfl ?_
          refine hr_call (a0 := 15) (b := 146) (e := 4) (nl := 7) (As := [(2, 1), (2, 5), (0, (D + 1))]) (R := []) 52 rfl (by decide +kernel) rfl rfl (Nat.le_of_ble_eq_true rfl) (Nat.le_of_ble_eq_true rfl) ?_
          refine hw_mono H ?_
          rintro r ψ76 y76 ⟨hyx, z76, hr, H⟩
          subst hyx
          subst hr
          refine ⟨hne0, ?_⟩
          show hw sc (d + 6) 147 81 (jm_st1 (jm_st1 [(0, (2, 52)), (1, (2, 1)), (2, (2, 5)), (3, (0, D))] 4 (0, z1)) 5 (0, φ 1 7)) [(0, z76)] ψ76 y76 Q
          obtain ⟨hz77, ht77, hf77⟩ := H
          refine hw_if (a0 := 0) (b := 0) (e := 97) (by decide +kernel) hz77 (fun q => ?_) (fun q => ?_)
          · have H := ht77 q
            refine hw_k (c := 0) (b := 0) (e := 1) (by decide +kernel) ?_
            exact hw_ret (a0 := 0) (e := 1) (by decide +kernel) (Or.inr ⟨rfl, by decide⟩) H
          · have H := hf77 q
            refine hw_ald (b := 1) (e := 0) (by decide +kernel) (get_st1 (get_st1 rfl (by decide) (fun q => absurd q.1 (by decide))) (by decide) (fun q => absurd q.1 (by decide))) (by decide) ?_
            refine hw_k (c := 41) (b := 1) (e := 2) (by decide +kernel) ?_
            refine hr_call (a0 := 11) (b := 60) (e := 2) (nl := 2) (As := [(0, 41)]) (R := []) 1 rfl (by decide +kernel) rfl rfl (Nat.le_of_ble_eq_true rfl) (Nat.le_of_ble_eq_true rfl) ?_
            refine hw_mono H ?_
            rintro r ψ79 y79 ⟨hyx, z79, hr, H⟩
            subst hyx
            subst hr
            refine ⟨hne0, ?_⟩
            show hw sc (d + 6) 147 90 (jm_st1 (jm_st1 [(0, (2, 52)), (1, (2, 1)), (2, (2, 5)), (3, (0, D))] 4 (0, z1)) 5 (0, φ 1 7)) [(0, z79)] ψ79 y79 Q
            obtain ⟨hz80, ht80, hf80⟩ := H
            refine hw_if (a0 := 0) (b := 0) (e := 97) (by decide +kernel) hz80 (fun q => ?_) (fun q => ?_)
            · have H := ht80 q
              refine hw_k (c := 0) (b := 0) (e := 1) (by decide +kernel) ?_
              exact hw_ret (a0 := 0) (e := 1) (by decide +kernel) (Or.inr ⟨rfl, by decide⟩) H
            · have H := hf80 q
              refine hw_k (c := 1) (b := 0) (e := 1) (by decide +kernel) ?_
              refine hw_goto (a0 := 0) (b := 0) (e := 98) (by decide +kernel) ?_
              exact hw_ret (a0 := 0) (e := 1) (by decide +kernel) (Or.inr ⟨rfl, by decide⟩) H
    · have H := hf43 q
      refine hw_ald (b := 1) (e := 0) (by decide +kernel) (get_st1 rfl (by decide) (fun q => absurd q.1 (by decide))) (by decide) ?_
      refine hw_k (c := 1) (b := 0) (e := 1) (by decide +kernel) ?_
      refine hr_call (a0 := 11) (b := 37) (e := 2) (nl := 2) (As := [(0, 1)]) (R := []) 1 rfl (by decide +kernel) rfl rfl (Nat.le_of_ble_eq_true rfl) (Nat.le_of_ble_eq_true rfl) ?_
      refine hw_mono H ?_
      rintro r ψ83 y83 ⟨hyx, z83, hr, H⟩
      subst hyx
      subst hr
      refine ⟨hne0, ?_⟩
      show hw sc (d + 6) 147 25 (jm_st1 [(0, (2, 52)), (1, (2, 1)), (2, (2, 5)), (3, (0, D))] 4 (0, z1)) [(0, z83)] ψ83 y83 Q
      exact hw_ret (a0 := 0) (e := 1) (by decide +kernel) (Or.inr ⟨rfl, H.1⟩) H.2
theorem sfg_147 {sc : List Int} {d : Nat} {D : Int} (hD1 : 1 ≤ D) (hD2 : D ≤ 8) {fc fo : hf_F → Int × hf_F} (hO : ∀ {φ : hf_F} {x : Nat} {Q : Option jm_V → hf_F → Nat → Prop}, Inv φ → (∀ (r : Int) (ψ : hf_F), Inv ψ → Fr [53, 54, 55, 2004, 2005, 2006, 2007, 2008, 2009, 2010, 53003, 53004] φ ψ → 0 ≤ r ∧ r ≤ 1 → fo φ = (r, ψ) → Q (some (0, r)) ψ x) → hw sc (d + 5) 147 0 [(0, (2, 52)), (1, (2, 1)), (2, (2, 5)), (3, (0, D + 1))] [] φ x Q) (hC : ∀ {φ : hf_F} {x : Nat} {Q : Option jm_V → hf_F → Nat → Prop}, Inv φ → (∀ (r : Int) (ψ : hf_F), Inv ψ → Fr [53, 54, 55, 2004, 2005, 2006, 2007, 2008, 2009, 2010, 53003, 53004] φ ψ → 0 ≤ r ∧ r ≤ 1 → fc φ = (r, ψ) → Q (some (0, r)) ψ x) → hw sc (d + 5) 146 0 [(0, (2, 52)), (1, (2, 1)), (2, (2, 5)), (3, (0, D + 1))] [] φ x Q) {φ : hf_F} {x : Nat} {Q : Option jm_V → hf_F → Nat → Prop}  (hI : Inv φ)  (hQ : ∀ (r : Int) (ψ : hf_F), Inv ψ → Fr [53, 54, 55, 2004, 2005, 2006, 2007, 2008, 2009, 2010, 53003, 53004] φ ψ → 0 ≤ r ∧ r ≤ 1 → FG_147 fc fo φ = (r, ψ) → Q (some (0, r)) ψ x) : hw sc (d + 6) 147 0 [(0, (2, 52)), (1, (2, 1)), (2, (2, 5)), (3, (0, D))] [] φ x Q := by
  apply sfg_147_v hD1 hD2
  have e0 : FG_147 fc fo φ = _ := rfl
  refine sf_61_1 (φ := φ) hI (by omega) (by omega) (fun z1 hp1 hE1 => ⟨rfl, rfl, z1, rfl, ?_⟩)
  have e1 := e0.trans (bnp_e hE1)
  have f1 := iv_at (a := 1) (k := 7) (lo := (-128 : Int)) (u := 999) hI (by decide +kernel)
  refine ⟨by unfold hi; omega, fun q2 => ?_, fun q2 => ?_⟩
  · skip
    have e2a := e1.trans (if_pos q2)
    have f2 := iv_at (a := 52) (k := 4) (lo := 0) (u := 20) hI (by decide +kernel)
    refine ⟨by unfold hi; omega, by unfold hi; omega, fun q3 => ?_, fun q3 => ?_⟩
    · skip
      have e3a := e2a.trans (if_pos q3)
      refine sf_37_1 (φ := φ) hI (by omega) (by omega) (fun z4 ψ4 hI4 hF4 hp4 hE4 => ⟨rfl, z4, rfl, ?_⟩)
      have hG4 : Fr [53, 54, 55, 2004, 2005, 2006, 2007, 2008, 2009, 2010, 53003, 53004] φ ψ4 := fr_tr (fr_rf) hF4 (by decide)
      have e4 := e3a.trans (bnd_e hE4)
      refine ⟨by omega, ?_⟩
      exact hQ z4 ψ4 hI4 hG4 ⟨by omega, by omega⟩ e4
    · skip
      have e3b := e2a.trans (if_neg q3)
      have i3 : Inv (hf_up φ 52 4 ((φ 52 4) + 1)) := iv_up (lo := 0) (u := 20) hI (by decide +kernel) (by omega) (by omega)
      have r3 : Fr [53, 54, 55, 2004, 2005, 2006, 2007, 2008, 2009, 2010, 53003, 53004] φ (hf_up φ 52 4 ((φ 52 4) + 1)) := fr_up (fr_rf) (by decide)
      refine sf_29_1 (φ := (hf_up φ 52 4 ((φ 52 4) + 1))) i3  (fun ψ7 hI7 hF7 hE7 => ⟨rfl, rfl, ?_⟩)
      have hG7 : Fr [53, 54, 55, 2004, 2005, 2006, 2007, 2008, 2009, 2010, 53003, 53004] φ ψ7 := fr_tr r3 hF7 (by decide)
      have e7 := e3b.trans (bnv_e hE7)
      refine ⟨by unfold hi; omega, fun q8 => ?_, fun q8 => ?_⟩
      · skip
        have e8a := e7.trans (if_pos q8)
        refine ⟨by unfold hi; omega, fun q9 => ?_, fun q9 => ?_, fun q9 => ?_, fun q9 => ?_, fun q9 => ?_, fun q9 => ?_, fun q9 => ?_, fun q9 => ?_, fun q9 => ?_, fun q9 => ?_⟩
        · skip
          have e9_0 := (e8a).trans (if_pos q9)
          refine hO (φ := ψ7) hI7  (fun z10 ψ10 hI10 hF10 hp10 hE10 => ⟨rfl, z10, rfl, ?_⟩)
          have hG10 : Fr [53, 54, 55, 2004, 2005, 2006, 2007, 2008, 2009, 2010, 53003, 53004] φ ψ10 := fr_tr hG7 hF10 (by decide)
          have e10 := e9_0.trans (bnd_e hE10)
          refine ⟨by unfold hi; omega, fun q11 => ?_, fun q11 => ?_⟩
          · skip
            have e11a := e10.trans (if_pos q11)
            exact hQ 0 ψ10 hI10 hG10 ⟨by omega, by omega⟩ e11a
          · skip
            have e11b := e10.trans (if_neg q11)
            refine sf_149_52 (φ := ψ10) hI10 (by omega) (by omega) (by omega) (by omega) (by omega) (by omega) (fun z13 ψ13 hI13 hF13 hp13 hE13 => ⟨rfl, z13, rfl, ?_⟩)
            have hG13 : Fr [53, 54, 55, 2004, 2005, 2006, 2007, 2008, 2009, 2010, 53003, 53004] φ ψ13 := fr_tr hG10 hF13 (by decide)
            have e13 := e11b.trans (bnd_e hE13)
            refine ⟨by unfold hi; omega, fun q14 => ?_, fun q14 => ?_⟩
            · skip
              have e14a := e13.trans (if_pos q14)
              exact hQ 0 ψ13 hI13 hG13 ⟨by omega, by omega⟩ e14a
            · skip
              have e14b := e13.trans (if_neg q14)
              exact hQ 1 ψ13 hI13 hG13 ⟨by omega, by omega⟩ e14b
        · skip
          have e9_1 := ((e8a).trans (if_neg (by omega))).trans (if_pos q9)
          refine sf_149_52 (φ := ψ7) hI7 (by omega) (by omega) (by omega) (by omega) (by omega) (by omega) (fun z17 ψ17 hI17 hF17 hp17 hE17 => ⟨rfl, z17, rfl, ?_⟩)
          have hG17 : Fr [53, 54, 55, 2004, 2005, 2006, 2007, 2008, 2009, 2010, 53003, 53004] φ ψ17 := fr_tr hG7 hF17 (by decide)
          have e17 := e9_1.trans (bnd_e hE17)
          refine ⟨by omega, ?_⟩
          exact hQ z17 ψ17 hI17 hG17 ⟨by omega, by omega⟩ e17
        · skip
          have e9_2 := (((e8a).trans (if_neg (by omega))).trans (if_neg (by omega))).trans (if_pos q9)
          refine sf_149_52 (φ := ψ7) hI7 (by omega) (by omega) (by omega) (by omega) (by omega) (by omega) (fun z19 ψ19 hI19 hF19 hp19 hE19 => ⟨rfl, z19, rfl, ?_⟩)
          have hG19 : Fr [53, 54, 55, 2004, 2005, 2006, 2007, 2008, 2009, 2010, 53003, 53004] φ ψ19 := fr_tr hG7 hF19 (by decide)
          have e19 := e9_2.trans (bnd_e hE19)
          refine ⟨by omega, ?_⟩
          exact hQ z19 ψ19 hI19 hG19 ⟨by omega, by omega⟩ e19
        · skip
          have e9_3 := ((((e8a).trans (if_neg (by omega))).trans (if_neg (by omega))).trans (if_neg (by omega))).trans (if_pos q9)
          refine sf_149_52 (φ := ψ7) hI7 (by omega) (by omega) (by omega) (by omega) (by omega) (by omega) (fun z21 ψ21 hI21 hF21 hp21 hE21 => ⟨rfl, z21, rfl, ?_⟩)
          have hG21 : Fr [53, 54, 55, 2004, 2005, 2006, 2007, 2008, 2009, 2010, 53003, 53004] φ ψ21 := fr_tr hG7 hF21 (by decide)
          have e21 := e9_3.trans (bnd_e hE21)
          refine ⟨by omega, ?_⟩
          exact hQ z21 ψ21 hI21 hG21 ⟨by omega, by omega⟩ e21
        · skip
          have e9_4 := (((((e8a).trans (if_neg (by omega))).trans (if_neg (by omega))).trans (if_neg (by omega))).trans (if_neg (by omega))).trans (if_pos q9)
          refine sf_150_52_1_5_k4_1 (φ := ψ7) hI7 (by omega) (by omega) (fun z23 ψ23 hI23 hF23 hp23 hE23 => ⟨rfl, z23, rfl, ?_⟩)
          have hG23 : Fr [53, 54, 55, 2004, 2005, 2006, 2007, 2008, 2009, 2010, 53003, 53004] φ ψ23 := fr_tr hG7 hF23 (by decide)
          have e23 := e9_4.trans (bnd_e hE23)
          refine ⟨by omega, ?_⟩
          exact hQ z23 ψ23 hI23 hG23 ⟨by omega, by omega⟩ e23
        · skip
          have e9_5 := ((((((e8a).trans (if_neg (by omega))).trans (if_neg (by omega))).trans (if_neg (by omega))).trans (if_neg (by omega))).trans (if_neg (by omega))).trans (if_pos q9)
          refine sf_150_52_1_5_k4_2 (φ := ψ7) hI7 (by omega) (by omega) (fun z25 ψ25 hI25 hF25 hp25 hE25 => ⟨rfl, z25, rfl, ?_⟩)
          have hG25 : Fr [53, 54, 55, 2004, 2005, 2006, 2007, 2008, 2009, 2010, 53003, 53004] φ ψ25 := fr_tr hG7 hF25 (by decide)
          have e25 := e9_5.trans (bnd_e hE25)
          refine ⟨by omega, ?_⟩
          exact hQ z25 ψ25 hI25 hG25 ⟨by omega, by omega⟩ e25
        · skip
          have e9_6 := (((((((e8a).trans (if_neg (by omega))).trans (if_neg (by omega))).trans (if_neg (by omega))).trans (if_neg (by omega))).trans (if_neg (by omega))).trans (if_neg (by omega))).trans (if_pos q9)
          refine sf_151_52_1 (φ := ψ7) hI7 (by omega) (by omega) (fun z27 ψ27 hI27 hF27 hp27 hE27 => ⟨rfl, z27, rfl, ?_⟩)
          have hG27 : Fr [53, 54, 55, 2004, 2005, 2006, 2007, 2008, 2009, 2010, 53003, 53004] φ ψ27 := fr_tr hG7 hF27 (by decide)
          have e27 := e9_6.trans (bnd_e hE27)
          refine ⟨by omega, ?_⟩
          exact hQ z27 ψ27 hI27 hG27 ⟨by omega, by omega⟩ e27
        · skip
          have e9_7 := ((((((((e8a).trans (if_neg (by omega))).trans (if_neg (by omega))).trans (if_neg (by omega))).trans (if_neg (by omega))).trans (if_neg (by omega))).trans (if_neg (by omega))).trans (if_neg (by omega))).trans (if_pos q9)
          refine sf_151_52_1 (φ := ψ7) hI7 (by omega) (by omega) (fun z29 ψ29 hI29 hF29 hp29 hE29 => ⟨rfl, z29, rfl, ?_⟩)
          have hG29 : Fr [53, 54, 55, 2004, 2005, 2006, 2007, 2008, 2009, 2010, 53003, 53004] φ ψ29 := fr_tr hG7 hF29 (by decide)
          have e29 := e9_7.trans (bnd_e hE29)
          refine ⟨by omega, ?_⟩
          exact hQ z29 ψ29 hI29 hG29 ⟨by omega, by omega⟩ e29
        · skip
          have e9_8 := (((((((((e8a).trans (if_neg (by omega))).trans (if_neg (by omega))).trans (if_neg (by omega))).trans (if_neg (by omega))).trans (if_neg (by omega))).trans (if_neg (by omega))).trans (if_neg (by omega))).trans (if_neg (by omega))).trans (if_pos q9)
          refine sf_151_52_1 (φ := ψ7) hI7 (by omega) (by omega) (fun z31 ψ31 hI31 hF31 hp31 hE31 => ⟨rfl, z31, rfl, ?_⟩)
          have hG31 : Fr [53, 54, 55, 2004, 2005, 2006, 2007, 2008, 2009, 2010, 53003, 53004] φ ψ31 := fr_tr hG7 hF31 (by decide)
          have e31 := e9_8.trans (bnd_e hE31)
          refine ⟨by omega, ?_⟩
          exact hQ z31 ψ31 hI31 hG31 ⟨by omega, by omega⟩ e31
        · skip
          have e9_9 := (((((((((e8a).trans (if_neg (by omega))).trans (if_neg (by omega))).trans (if_neg (by omega))).trans (if_neg (by omega))).trans (if_neg (by omega))).trans (if_neg (by omega))).trans (if_neg (by omega))).trans (if_neg (by omega))).trans (if_neg (by omega))
          refine sf_149_52 (φ := ψ7) hI7 (by omega) (by omega) (by omega) (by omega) (by omega) (by omega) (fun z33 ψ33 hI33 hF33 hp33 hE33 => ⟨rfl, z33, rfl, ?_⟩)
          have hG33 : Fr [53, 54, 55, 2004, 2005, 2006, 2007, 2008, 2009, 2010, 53003, 53004] φ ψ33 := fr_tr hG7 hF33 (by decide)
          have e33 := e9_9.trans (bnd_e hE33)
          refine ⟨by omega, ?_⟩
          exact hQ z33 ψ33 hI33 hG33 ⟨by omega, by omega⟩ e33
      · skip
        have e8b := e7.trans (if_neg q8)
        refine hC (φ := ψ7) hI7  (fun z35 ψ35 hI35 hF35 hp35 hE35 => ⟨rfl, z35, rfl, ?_⟩)
        have hG35 : Fr [53, 54, 55, 2004, 2005, 2006, 2007, 2008, 2009, 2010, 53003, 53004] φ ψ35 := fr_tr hG7 hF35 (by decide)
        have e35 := e8b.trans (bnd_e hE35)
        refine ⟨by unfold hi; omega, fun q36 => ?_, fun q36 => ?_⟩
        · skip
          have e36a := e35.trans (if_pos q36)
          exact hQ 0 ψ35 hI35 hG35 ⟨by omega, by omega⟩ e36a
        · skip
          have e36b := e35.trans (if_neg q36)
          refine sf_60_1 (φ := ψ35) hI35 (by omega) (by omega) (fun z38 ψ38 hI38 hF38 hp38 hE38 => ⟨rfl, z38, rfl, ?_⟩)
          have hG38 : Fr [53, 54, 55, 2004, 2005, 2006, 2007, 2008, 2009, 2010, 53003, 53004] φ ψ38 := fr_tr hG35 hF38 (by decide)
          have e38 := e36b.trans (bnd_e hE38)
          refine ⟨by unfold hi; omega, fun q39 => ?_, fun q39 => ?_⟩
          · skip
            have e39a := e38.trans (if_pos q39)
            exact hQ 0 ψ38 hI38 hG38 ⟨by omega, by omega⟩ e39a
          · skip
            have e39b := e38.trans (if_neg q39)
            exact hQ 1 ψ38 hI38 hG38 ⟨by omega, by omega⟩ e39b
  · skip
    have e2b := e1.trans (if_neg q2)
    refine sf_148_1 (φ := φ) hI  (fun z42 hp42 hE42 => ⟨rfl, rfl, z42, rfl, ?_⟩)
    have e42 := e2b.trans (bnp_e hE42)
    refine ⟨by unfold hi; omega, fun q43 => ?_, fun q43 => ?_⟩
    · skip
      have e43a := e42.trans (if_pos q43)
      have f4 := iv_at (a := 52) (k := 4) (lo := 0) (u := 20) hI (by decide +kernel)
      refine ⟨by unfold hi; omega, by unfold hi; omega, fun q44 => ?_, fun q44 => ?_⟩
      · skip
        have e44a := e43a.trans (if_pos q44)
        refine sf_37_1 (φ := φ) hI (by omega) (by omega) (fun z45 ψ45 hI45 hF45 hp45 hE45 => ⟨rfl, z45, rfl, ?_⟩)
        have hG45 : Fr [53, 54, 55, 2004, 2005, 2006, 2007, 2008, 2009, 2010, 53003, 53004] φ ψ45 := fr_tr (fr_rf) hF45 (by decide)
        have e45 := e44a.trans (bnd_e hE45)
        refine ⟨by omega, ?_⟩
        exact hQ z45 ψ45 hI45 hG45 ⟨by omega, by omega⟩ e45
      · skip
        have e44b := e43a.trans (if_neg q44)
        have i5 : Inv (hf_up φ 52 4 ((φ 52 4) + 1)) := iv_up (lo := 0) (u := 20) hI (by decide +kernel) (by omega) (by omega)
        have r5 : Fr [53, 54, 55, 2004, 2005, 2006, 2007, 2008, 2009, 2010, 53003, 53004] φ (hf_up φ 52 4 ((φ 52 4) + 1)) := fr_up (fr_rf) (by decide)
        refine sf_29_1 (φ := (hf_up φ 52 4 ((φ 52 4) + 1))) i5  (fun ψ48 hI48 hF48 hE48 => ⟨rfl, rfl, ?_⟩)
        have hG48 : Fr [53, 54, 55, 2004, 2005, 2006, 2007, 2008, 2009, 2010, 53003, 53004] φ ψ48 := fr_tr r5 hF48 (by decide)
        have e48 := e44b.trans (bnv_e hE48)
        refine ⟨by unfold hi; omega, fun q49 => ?_, fun q49 => ?_⟩
        · skip
          have e49a := e48.trans (if_pos q49)
          refine ⟨by unfold hi; omega, fun q50 => ?_, fun q50 => ?_, fun q50 => ?_, fun q50 => ?_, fun q50 => ?_, fun q50 => ?_, fun q50 => ?_, fun q50 => ?_, fun q50 => ?_, fun q50 => ?_⟩
          · skip
            have e50_0 := (e49a).trans (if_pos q50)
            refine hO (φ := ψ48) hI48  (fun z51 ψ51 hI51 hF51 hp51 hE51 => ⟨rfl, z51, rfl, ?_⟩)
            have hG51 : Fr [53, 54, 55, 2004, 2005, 2006, 2007, 2008, 2009, 2010, 53003, 53004] φ ψ51 := fr_tr hG48 hF51 (by decide)
            have e51 := e50_0.trans (bnd_e hE51)
            refine ⟨by unfold hi; omega, fun q52 => ?_, fun q52 => ?_⟩
            · skip
              have e52a := e51.trans (if_pos q52)
              exact hQ 0 ψ51 hI51 hG51 ⟨by omega, by omega⟩ e52a
            · skip
              have e52b := e51.trans (if_neg q52)
              refine sf_149_52 (φ := ψ51) hI51 (by omega) (by omega) (by omega) (by omega) (by omega) (by omega) (fun z54 ψ54 hI54 hF54 hp54 hE54 => ⟨rfl, z54, rfl, ?_⟩)
              have hG54 : Fr [53, 54, 55, 2004, 2005, 2006, 2007, 2008, 2009, 2010, 53003, 53004] φ ψ54 := fr_tr hG51 hF54 (by decide)
              have e54 := e52b.trans (bnd_e hE54)
              refine ⟨by unfold hi; omega, fun q55 => ?_, fun q55 => ?_⟩
              · skip
                have e55a := e54.trans (if_pos q55)
                exact hQ 0 ψ54 hI54 hG54 ⟨by omega, by omega⟩ e55a
              · skip
                have e55b := e54.trans (if_neg q55)
                exact hQ 1 ψ54 hI54 hG54 ⟨by omega, by omega⟩ e55b
          · skip
            have e50_1 := ((e49a).trans (if_neg (by omega))).trans (if_pos q50)
            refine sf_149_52 (φ := ψ48) hI48 (by omega) (by omega) (by omega) (by omega) (by omega) (by omega) (fun z58 ψ58 hI58 hF58 hp58 hE58 => ⟨rfl, z58, rfl, ?_⟩)
            have hG58 : Fr [53, 54, 55, 2004, 2005, 2006, 2007, 2008, 2009, 2010, 53003, 53004] φ ψ58 := fr_tr hG48 hF58 (by decide)
            have e58 := e50_1.trans (bnd_e hE58)
            refine ⟨by omega, ?_⟩
            exact hQ z58 ψ58 hI58 hG58 ⟨by omega, by omega⟩ e58
          · skip
            have e50_2 := (((e49a).trans (if_neg (by omega))).trans (if_neg (by omega))).trans (if_pos q50)
            refine sf_149_52 (φ := ψ48) hI48 (by omega) (by omega) (by omega) (by omega) (by omega) (by omega) (fun z60 ψ60 hI60 hF60 hp60 hE60 => ⟨rfl, z60, rfl, ?_⟩)
            have hG60 : Fr [53, 54, 55, 2004, 2005, 2006, 2007, 2008, 2009, 2010, 53003, 53004] φ ψ60 := fr_tr hG48 hF60 (by decide)
            have e60 := e50_2.trans (bnd_e hE60)
            refine ⟨by omega, ?_⟩
            exact hQ z60 ψ60 hI60 hG60 ⟨by omega, by omega⟩ e60
          · skip
            have e50_3 := ((((e49a).trans (if_neg (by omega))).trans (if_neg (by omega))).trans (if_neg (by omega))).trans (if_pos q50)
            refine sf_149_52 (φ := ψ48) hI48 (by omega) (by omega) (by omega) (by omega) (by omega) (by omega) (fun z62 ψ62 hI62 hF62 hp62 hE62 => ⟨rfl, z62, rfl, ?_⟩)
            have hG62 : Fr [53, 54, 55, 2004, 2005, 2006, 2007, 2008, 2009, 2010, 53003, 53004] φ ψ62 := fr_tr hG48 hF62 (by decide)
            have e62 := e50_3.trans (bnd_e hE62)
            refine ⟨by omega, ?_⟩
            exact hQ z62 ψ62 hI62 hG62 ⟨by omega, by omega⟩ e62
          · skip
            have e50_4 := (((((e49a).trans (if_neg (by omega))).trans (if_neg (by omega))).trans (if_neg (by omega))).trans (if_neg (by omega))).trans (if_pos q50)
            refine sf_150_52_1_5_k4_1 (φ := ψ48) hI48 (by omega) (by omega) (fun z64 ψ64 hI64 hF64 hp64 hE64 => ⟨rfl, z64, rfl, ?_⟩)
            have hG64 : Fr [53, 54, 55, 2004, 2005, 2006, 2007, 2008, 2009, 2010, 53003, 53004] φ ψ64 := fr_tr hG48 hF64 (by decide)
            have e64 := e50_4.trans (bnd_e hE64)
            refine ⟨by omega, ?_⟩
            exact hQ z64 ψ64 hI64 hG64 ⟨by omega, by omega⟩ e64
          · skip
            have e50_5 := ((((((e49a).trans (if_neg (by omega))).trans (if_neg (by omega))).trans (if_neg (by omega))).trans (if_neg (by omega))).trans (if_neg (by omega))).trans (if_pos q50)
            refine sf_150_52_1_5_k4_2 (φ := ψ48) hI48 (by omega) (by omega) (fun z66 ψ66 hI66 hF66 hp66 hE66 => ⟨rfl, z66, rfl, ?_⟩)
            have hG66 : Fr [53, 54, 55, 2004, 2005, 2006, 2007, 2008, 2009, 2010, 53003, 53004] φ ψ66 := fr_tr hG48 hF66 (by decide)
            have e66 := e50_5.trans (bnd_e hE66)
            refine ⟨by omega, ?_⟩
            exact hQ z66 ψ66 hI66 hG66 ⟨by omega, by omega⟩ e66
          · skip
            have e50_6 := (((((((e49a).trans (if_neg (by omega))).trans (if_neg (by omega))).trans (if_neg (by omega))).trans (if_neg (by omega))).trans (if_neg (by omega))).trans (if_neg (by omega))).trans (if_pos q50)
            refine sf_151_52_1 (φ := ψ48) hI48 (by omega) (by omega) (fun z68 ψ68 hI68 hF68 hp68 hE68 => ⟨rfl, z68, rfl, ?_⟩)
            have hG68 : Fr [53, 54, 55, 2004, 2005, 2006, 2007, 2008, 2009, 2010, 53003, 53004] φ ψ68 := fr_tr hG48 hF68 (by decide)
            have e68 := e50_6.trans (bnd_e hE68)
            refine ⟨by omega, ?_⟩
            exact hQ z68 ψ68 hI68 hG68 ⟨by omega, by omega⟩ e68
          · skip
            have e50_7 := ((((((((e49a).trans (if_neg (by omega))).trans (if_neg (by omega))).trans (if_neg (by omega))).trans (if_neg (by omega))).trans (if_neg (by omega))).trans (if_neg (by omega))).trans (if_neg (by omega))).trans (if_pos q50)
            refine sf_151_52_1 (φ := ψ48) hI48 (by omega) (by omega) (fun z70 ψ70 hI70 hF70 hp70 hE70 => ⟨rfl, z70, rfl, ?_⟩)
            have hG70 : Fr [53, 54, 55, 2004, 2005, 2006, 2007, 2008, 2009, 2010, 53003, 53004] φ ψ70 := fr_tr hG48 hF70 (by decide)
            have e70 := e50_7.trans (bnd_e hE70)
            refine ⟨by omega, ?_⟩
            exact hQ z70 ψ70 hI70 hG70 ⟨by omega, by omega⟩ e70
          · skip
            have e50_8 := (((((((((e49a).trans (if_neg (by omega))).trans (if_neg (by omega))).trans (if_neg (by omega))).trans (if_neg (by omega))).trans (if_neg (by omega))).trans (if_neg (by omega))).trans (if_neg (by omega))).trans (if_neg (by omega))).trans (if_pos q50)
            refine sf_151_52_1 (φ := ψ48) hI48 (by omega) (by omega) (fun z72 ψ72 hI72 hF72 hp72 hE72 => ⟨rfl, z72, rfl, ?_⟩)
            have hG72 : Fr [53, 54, 55, 2004, 2005, 2006, 2007, 2008, 2009, 2010, 53003, 53004] φ ψ72 := fr_tr hG48 hF72 (by decide)
            have e72 := e50_8.trans (bnd_e hE72)
            refine ⟨by omega, ?_⟩
            exact hQ z72 ψ72 hI72 hG72 ⟨by omega, by omega⟩ e72
          · skip
            have e50_9 := (((((((((e49a).trans (if_neg (by omega))).trans (if_neg (by omega))).trans (if_neg (by omega))).trans (if_neg (by omega))).trans (if_neg (by omega))).trans (if_neg (by omega))).trans (if_neg (by omega))).trans (if_neg (by omega))).trans (if_neg (by omega))
            refine sf_149_52 (φ := ψ48) hI48 (by omega) (by omega) (by omega) (by omega) (by omega) (by omega) (fun z74 ψ74 hI74 hF74 hp74 hE74 => ⟨rfl, z74, rfl, ?_⟩)
            have hG74 : Fr [53, 54, 55, 2004, 2005, 2006, 2007, 2008, 2009, 2010, 53003, 53004] φ ψ74 := fr_tr hG48 hF74 (by decide)
            have e74 := e50_9.trans (bnd_e hE74)
            refine ⟨by omega, ?_⟩
            exact hQ z74 ψ74 hI74 hG74 ⟨by omega, by omega⟩ e74
        · skip
          have e49b := e48.trans (if_neg q49)
          refine hC (φ := ψ48) hI48  (fun z76 ψ76 hI76 hF76 hp76 hE76 => ⟨rfl, z76, rfl, ?_⟩)
          have hG76 : Fr [53, 54, 55, 2004, 2005, 2006, 2007, 2008, 2009, 2010, 53003, 53004] φ ψ76 := fr_tr hG48 hF76 (by decide)
          have e76 := e49b.trans (bnd_e hE76)
          refine ⟨by unfold hi; omega, fun q77 => ?_, fun q77 => ?_⟩
          · skip
            have e77a := e76.trans (if_pos q77)
            exact hQ 0 ψ76 hI76 hG76 ⟨by omega, by omega⟩ e77a
          · skip
            have e77b := e76.trans (if_neg q77)
            refine sf_60_1 (φ := ψ76) hI76 (by omega) (by omega) (fun z79 ψ79 hI79 hF79 hp79 hE79 => ⟨rfl, z79, rfl, ?_⟩)
            have hG79 : Fr [53, 54, 55, 2004, 2005, 2006, 2007, 2008, 2009, 2010, 53003, 53004] φ ψ79 := fr_tr hG76 hF79 (by decide)
            have e79 := e77b.trans (bnd_e hE79)
            refine ⟨by unfold hi; omega, fun q80 => ?_, fun q80 => ?_⟩
            · skip
              have e80a := e79.trans (if_pos q80)
              exact hQ 0 ψ79 hI79 hG79 ⟨by omega, by omega⟩ e80a
            · skip
              have e80b := e79.trans (if_neg q80)
              exact hQ 1 ψ79 hI79 hG79 ⟨by omega, by omega⟩ e80b
    · skip
      have e43b := e42.trans (if_neg q43)
      refine sf_37_1 (φ := φ) hI (by omega) (by omega) (fun z83 ψ83 hI83 hF83 hp83 hE83 => ⟨rfl, z83, rfl, ?_⟩)
      have hG83 : Fr [53, 54, 55, 2004, 2005, 2006, 2007, 2008, 2009, 2010, 53003, 53004] φ ψ83 := fr_tr (fr_rf) hF83 (by decide)
      have e83 := e43b.trans (bnd_e hE83)
      refine ⟨by omega, ?_⟩
      exact hQ z83 ψ83 hI83 hG83 ⟨by omega, by omega⟩ e83
theorem sf_147_52_1_5_k3_8 {sc : List Int} {d : Nat} {φ : hf_F} {x : Nat} {Q : Option jm_V → hf_F → Nat → Prop}  (hI : Inv φ)  (hQ : ∀ (r : Int) (ψ : hf_F), Inv ψ → Fr [53, 54, 55, 2004, 2005, 2006, 2007, 2008, 2009, 2010, 53003, 53004] φ ψ → 0 ≤ r ∧ r ≤ 1 → F_Sentence_readOne_52_1_5_k3_8 φ = (r, ψ) → Q (some (0, r)) ψ x) : hw sc (d + 6) 147 0 [(0, (2, 52)), (1, (2, 1)), (2, (2, 5)), (3, (0, 8))] [] φ x Q := by
  have h := sfg_147 (sc := sc) (d := d) (D := 8) (by decide) (by decide) (fc := F_Sentence_readCond_52_1_5_k3_9) (fo := F_Sentence_readOne_52_1_5_k3_9) (fun hI2 hQ2 => sf_147_52_1_5_k3_9 (d := d + 1) hI2 hQ2) (fun hI2 hQ2 => sf_146_52_1_5_k3_9 (d := d) hI2 hQ2) (φ := φ) (x := x) (Q := Q) hI hQ
  exact h
