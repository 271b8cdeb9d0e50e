theorem sf_250_192_v3 {sc : List Int} {d : Nat} {φ : hf_F} {x : Nat} {Q : Option jm_V → hf_F → Nat → Prop} {L : jm_L} {l1 l3 : Int} (g0 : jm_get L 0 = some (2, 192)) (g1 : jm_get L 1 = some (1, l1)) (g3 : jm_get L 3 = some (0, l3))
    (H : hi l3 ∧ (l3 < 0 → Q none φ x) ∧ (¬ l3 < 0 → hi (jm_cmp (hb_land (hb_lshr l1 l3) 255) 0) ∧ ((jm_cmp (hb_land (hb_lshr l1 l3) 255) 0) = 0 → hw sc (d + 1) 250 3 (jm_st1 L 3 (0, l3 + (-8 : Int))) [] φ x Q) ∧ (¬ (jm_cmp (hb_land (hb_lshr l1 l3) 255) 0) = 0 → hw sc d 251 0 [(0, (2, 192)), (1, (0, hb_l2i (hb_land (hb_lshr l1 l3) 255)))] [] φ x (fun r ψ4 y4 => y4 = x ∧ (r = none ∧ (hw sc (d + 1) 250 3 (jm_st1 L 3 (0, l3 + (-8 : Int))) [] ψ4 x Q)))))) :
    hw sc (d + 1) 250 3 L [] φ x Q := by
  refine hw_ld (b := 3) (e := 0) (by decide +kernel) g3 ?_
  obtain ⟨hz1, ht1, hf1⟩ := H
  refine hw_if (a0 := 0) (b := 2) (e := 37) (by decide +kernel) hz1 (fun q => ?_) (fun q => ?_)
  · have H := ht1 q
    exact hw_vret (a0 := 0) (e := 0) (by decide +kernel) H
  · have H := hf1 q
    refine hw_lld (b := 1) (e := 0) (by decide +kernel) g1 ?_
    refine hw_ld (b := 3) (e := 0) (by decide +kernel) g3 ?_
    refine hw_lsh (w := hb_lshr l1 l3) (a0 := 0) (b := 5) (e := 0) (by decide +kernel) rfl ?_
    refine hw_lk (c := 255) (b := 1) (e := 3) (by decide +kernel) ?_
    refine hw_lbin (w := hb_land (hb_lshr l1 l3) 255) (a0 := 0) (b := 2) (e := 0) (by decide +kernel) rfl ?_
    refine hw_lk (c := 0) (b := 0) (e := 1) (by decide +kernel) ?_
    refine hw_lcmp (w := jm_cmp (hb_land (hb_lshr l1 l3) 255) 0) (a0 := 0) (b := 0) (e := 0) (by decide +kernel) rfl ?_
    obtain ⟨hz3, ht3, hf3⟩ := H
    refine hw_if (a0 := 0) (b := 0) (e := 31) (by decide +kernel) hz3 (fun q => ?_) (fun q => ?_)
    · have H := ht3 q
      refine hw_inc (L' := (jm_st1 L 3 (0, l3 + (-8 : Int)))) (c := (-8 : Int)) (b := 3) (e := 0) (by decide +kernel) g3 rfl ?_
      refine hw_goto (a0 := 0) (b := 0) (e := 3) (by decide +kernel) ?_
      exact H
    · have H := hf3 q
      refine hw_ald (b := 0) (e := 0) (by decide +kernel) g0 (by decide) ?_
      refine hw_lld (b := 1) (e := 0) (by decide +kernel) g1 ?_
      refine hw_ld (b := 3) (e := 0) (by decide +kernel) g3 ?_
      refine hw_lsh (w := hb_lshr l1 l3) (a0 := 0) (b := 5) (e := 0) (by decide +kernel) rfl ?_
      refine hw_lk (c := 255) (b := 1) (e := 3) (by decide +kernel) ?_
      refine hw_lbin (w := hb_land (hb_lshr l1 l3) 255) (a0 := 0) (b := 2) (e := 0) (by decide +kernel) rfl ?_
      refine hw_conv (t' := 0) (w := hb_l2i (hb_land (hb_lshr l1 l3) 255)) (a0 := 0) (b := 1) (e := 0) (by decide +kernel) rfl ?_
      refine hr_call (a0 := 22) (b := 251) (e := 2) (nl := 2) (As := [(0, hb_l2i (hb_land (hb_lshr l1 l3) 255))]) (R := []) 192 rfl (by decide +kernel) rfl rfl (Nat.le_of_ble_eq_true rfl) (Nat.le_of_ble_eq_true rfl) ?_
      refine hw_mono H ?_
      rintro r ψ4 y4 ⟨hyx, hr, H⟩
      subst hyx
      subst hr
      refine ⟨hnen, ?_⟩
      show hw sc (d + 1) 250 31 L [] ψ4 y4 Q
      refine hw_inc (L' := (jm_st1 L 3 (0, l3 + (-8 : Int)))) (c := (-8 : Int)) (b := 3) (e := 0) (by decide +kernel) g3 rfl ?_
      refine hw_goto (a0 := 0) (b := 0) (e := 3) (by decide +kernel) ?_
      exact H
theorem sf_250_192_l3 {sc : List Int} {d x : Nat} {Q : Option jm_V → hf_F → Nat → Prop} : ∀ (n : Nat) (φ : hf_F) (L : jm_L) (l1 l3 : Int), jm_get L 0 = some (2, 192) → jm_get L 1 = some (1, l1) → jm_get L 3 = some (0, l3) → Inv φ → l3 + 8 < (n : Int) → (-8 : Int) ≤ l3 → l3 ≤ 56 → 8 * φ 192 28 + l3 + 8 ≤ 384 → (∀ ψ : hf_F, Inv ψ → Fr [192, 201] φ ψ → 8 * ψ 192 28 ≤ 8 * φ 192 28 + l3 + 8 → Q none ψ x) → hw sc (d + 1) 250 3 L [] φ x Q := by
  intro n
  induction n with
  | zero =>
    intro φ L l1 l3 g0 g1 g3 hI hM b3a b3b c0 hQ
    exfalso
    omega
  | succ n ih =>
    intro φ L l1 l3 g0 g1 g3 hI hM b3a b3b c0 hQ
    refine sf_250_192_v3 g0 g1 g3 ?_
    refine ⟨by unfold hi; omega, fun q1 => ?_, fun q1 => ?_⟩
    · skip
      have f1 := iv_at (a := 192) (k := 28) (lo := 0) (u := 48) hI (by decide +kernel)
      exact hQ φ hI (fr_rf) (by omega)
    · skip
      have f2 := hr_cmp (hb_land (hb_lshr l1 l3) 255) 0
      have f3 := hr_cmp0 (hb_land (hb_lshr l1 l3) 255)
      refine ⟨by unfold hi; omega, fun q3 => ?_, fun q3 => ?_⟩
      · skip
        have f4 := iv_at (a := 192) (k := 28) (lo := 0) (u := 48) hI (by decide +kernel)
        exact ih φ (jm_st1 L 3 (0, l3 + (-8 : Int))) l1 (l3 + (-8 : Int)) (get_st1 g0 (by decide) (fun q => absurd q.1 (by decide))) (get_st1 g1 (by decide) (fun q => absurd q.1 (by decide))) get_st1e hI (by omega) (by omega) (by omega) (by omega) (fun χ hIχ hFχ hVχ => hQ χ hIχ (fr_tr (fr_rf) hFχ (by decide)) (by omega))
      · skip
        have f5 := hr_l2i (hb_land (hb_lshr l1 l3) 255)
        have f6 := iv_at (a := 192) (k := 28) (lo := 0) (u := 48) hI (by decide +kernel)
        refine sf_251_192 (φ := φ) hI (by omega) (fun ψ4 hI4 hF4 hV4 => ⟨rfl, rfl, ?_⟩)
        have hG4 : Fr [192, 201] φ ψ4 := fr_tr (fr_rf) hF4 (by decide)
        have f7 := iv_at (a := 192) (k := 28) (lo := 0) (u := 48) hI4 (by decide +kernel)
        exact ih ψ4 (jm_st1 L 3 (0, l3 + (-8 : Int))) l1 (l3 + (-8 : Int)) (get_st1 g0 (by decide) (fun q => absurd q.1 (by decide))) (get_st1 g1 (by decide) (fun q => absurd q.1 (by decide))) get_st1e hI4 (by omega) (by omega) (by omega) (by omega) (fun χ hIχ hFχ hVχ => hQ χ hIχ (fr_tr hG4 hFχ (by decide)) (by omega))
theorem sf_250_192_v {sc : List Int} {d : Nat} {φ : hf_F} {x : Nat} {Q : Option jm_V → hf_F → Nat → Prop} {v1 : Int}
    (H : hw sc (d + 1) 250 3 (jm_st1 [(0, (2, 192)), (1, (1, v1))] 3 (0, 56)) [] φ x Q) :
    hw sc (d + 1) 250 0 [(0, (2, 192)), (1, (1, v1))] [] φ x Q := by
  refine hw_k (c := 56) (b := 1) (e := 2) (by decide +kernel) ?_
  refine hw_st (L' := (jm_st1 [(0, (2, 192)), (1, (1, v1))] 3 (0, 56))) (b := 3) (e := 0) (by decide +kernel) rfl ?_
  exact H
theorem sf_250_192 {sc : List Int} {d : Nat} {φ : hf_F} {x : Nat} {Q : Option jm_V → hf_F → Nat → Prop} {v1 : Int} (hI : Inv φ) (hp0 : φ 192 28 ≤ 40) (hQ : ∀ ψ : hf_F, Inv ψ → Fr [192, 201] φ ψ → ψ 192 28 ≤ φ 192 28 + 8 → Q none ψ x) : hw sc (d + 1) 250 0 [(0, (2, 192)), (1, (1, v1))] [] φ x Q := by
  apply sf_250_192_v
  have f1 := iv_at (a := 192) (k := 28) (lo := 0) (u := 48) hI (by decide +kernel)
  exact sf_250_192_l3 ((56 + 8 : Int).toNat + 1) φ (jm_st1 [(0, (2, 192)), (1, (1, v1))] 3 (0, 56)) v1 56 (get_st1 rfl (by decide) (fun q => absurd q.1 (by decide))) (get_st1 rfl (by decide) (fun q => absurd q.1 (by decide))) get_st1e hI (by omega) (by omega) (by omega) (by omega) (fun χ hIχ hFχ hVχ => hQ χ hIχ (fr_tr (fr_rf) hFχ (by decide)) (by omega))
theorem sf_252_192_v {sc : List Int} {d : Nat} {φ : hf_F} {x : Nat} {Q : Option jm_V → hf_F → Nat → Prop} {v1 : Int}
    (H : hw sc (d + 1) 251 0 [(0, (2, 192)), (1, (0, 32))] [] φ x (fun r ψ1 y1 => y1 = x ∧ (r = none ∧ (hw sc (d + 1) 250 0 [(0, (2, 192)), (1, (1, v1))] [] ψ1 x (fun r ψ2 y2 => y2 = x ∧ (r = none ∧ (Q none ψ2 x))))))) :
    hw sc (d + 2) 252 0 [(0, (2, 192)), (1, (1, v1))] [] φ x Q := by
  refine hw_ald (b := 0) (e := 0) (by decide +kernel) rfl (by decide) ?_
  refine hw_k (c := 32) (b := 1) (e := 2) (by decide +kernel) ?_
  refine hr_call (a0 := 22) (b := 251) (e := 2) (nl := 2) (As := [(0, 32)]) (R := []) 192 rfl (by decide +kernel) rfl rfl (Nat.le_of_ble_eq_true rfl) (Nat.le_of_ble_eq_true rfl) ?_
  refine hw_mono H ?_
  rintro r ψ1 y1 ⟨hyx, hr, H⟩
  subst hyx
  subst hr
  refine ⟨hnen, ?_⟩
  show hw sc (d + 2) 252 6 [(0, (2, 192)), (1, (1, v1))] [] ψ1 y1 Q
  refine hw_ald (b := 0) (e := 0) (by decide +kernel) rfl (by decide) ?_
  refine hw_lld (b := 1) (e := 0) (by decide +kernel) rfl ?_
  refine hr_call (a0 := 22) (b := 250) (e := 2) (nl := 4) (As := [(1, v1)]) (R := []) 192 rfl (by decide +kernel) rfl rfl (Nat.le_of_ble_eq_true rfl) (Nat.le_of_ble_eq_true rfl) ?_
  refine hw_mono H ?_
  rintro r ψ2 y2 ⟨hyx, hr, H⟩
  subst hyx
  subst hr
  refine ⟨hnen, ?_⟩
  show hw sc (d + 2) 252 11 [(0, (2, 192)), (1, (1, v1))] [] ψ2 y2 Q
  exact hw_vret (a0 := 0) (e := 0) (by decide +kernel) H
theorem sf_252_192 {sc : List Int} {d : Nat} {φ : hf_F} {x : Nat} {Q : Option jm_V → hf_F → Nat → Prop} {v1 : Int} (hI : Inv φ) (hp0 : φ 192 28 ≤ 39) (hQ : ∀ ψ : hf_F, Inv ψ → Fr [192, 201] φ ψ → ψ 192 28 ≤ φ 192 28 + 9 → Q none ψ x) : hw sc (d + 2) 252 0 [(0, (2, 192)), (1, (1, v1))] [] φ x Q := by
  apply sf_252_192_v
  have f1 := iv_at (a := 192) (k := 28) (lo := 0) (u := 48) hI (by decide +kernel)
  refine sf_251_192 (φ := φ) hI (by omega) (fun ψ1 hI1 hF1 hV1 => ⟨rfl, rfl, ?_⟩)
  have hG1 : Fr [192, 201] φ ψ1 := fr_tr (fr_rf) hF1 (by decide)
  have f2 := iv_at (a := 192) (k := 28) (lo := 0) (u := 48) hI1 (by decide +kernel)
  refine sf_250_192 (φ := ψ1) hI1 (by omega) (fun ψ2 hI2 hF2 hV2 => ⟨rfl, rfl, ?_⟩)
  have hG2 : Fr [192, 201] φ ψ2 := fr_tr hG1 hF2 (by decide)
  have f3 := iv_at (a := 192) (k := 28) (lo := 0) (u := 48) hI2 (by decide +kernel)
  exact hQ ψ2 hI2 hG2 (by omega)
theorem sf_249_192_v {sc : List Int} {d : Nat} {φ : hf_F} {x : Nat} {Q : Option jm_V → hf_F → Nat → Prop} {v1 : Int}
    (H : hw sc (d + 2) 202 0 [(0, (2, 192)), (1, (0, v1))] [] (hf_up φ 192 0 0) x (fun r ψ1 y1 => y1 = x ∧ (hf_up φ 192 0 0) = ψ1 ∧ (∃ z1 : Int, r = some (0, z1) ∧ (hi z1 ∧ (¬ z1 = 0 → 0 ≤ (19 + v1) ∧ (19 + v1) < 66 ∧ (hw sc (d + 2) 250 0 [(0, (2, 192)), (1, (1, φ 197 ((19 + v1).toNat)))] [] (hf_up (hf_up φ 192 0 0) 192 28 0) x (fun r ψ4 y4 => y4 = x ∧ (r = none ∧ (0 ≤ (112 + v1) ∧ (112 + v1) < 361 ∧ (hi (ψ4 194 ((112 + v1).toNat)) ∧ ((ψ4 194 ((112 + v1).toNat)) ≤ 0 → hw sc (d + 2) 252 0 [(0, (2, 192)), (1, (1, 7300710))] [] ψ4 x (fun r ψ7 y7 => y7 = x ∧ (r = none ∧ (0 ≤ (118 + v1) ∧ (118 + v1) < 361 ∧ (hi (ψ7 194 ((118 + v1).toNat)) ∧ (¬ (ψ7 194 ((118 + v1).toNat)) = 0 → hw sc (d + 2) 252 0 [(0, (2, 192)), (1, (1, 1852143732))] [] ψ7 x (fun r ψ10 y10 => y10 = x ∧ (r = none ∧ (hw sc (d + 2) 204 0 [(0, (2, 192)), (1, (0, v1))] [] ψ10 x (fun r ψ11 y11 => y11 = x ∧ ψ10 = ψ11 ∧ (∃ z11 : Int, r = some (0, z11) ∧ (0 ≤ (11 + z11) ∧ (11 + z11) < 66 ∧ (hw sc (d + 2) 252 0 [(0, (2, 192)), (1, (1, ψ10 197 ((11 + z11).toNat)))] [] ψ10 x (fun r ψ13 y13 => y13 = x ∧ (r = none ∧ (Q (some (0, ψ13 192 28)) ψ13 x))))))))))) ∧ (¬ (¬ (ψ7 194 ((118 + v1).toNat)) = 0) → hw sc (d + 2) 252 0 [(0, (2, 192)), (1, (1, 1836414053))] [] ψ7 x (fun r ψ15 y15 => y15 = x ∧ (r = none ∧ (Q (some (0, ψ15 192 28)) ψ15 x))))))))) ∧ (¬ (ψ4 194 ((112 + v1).toNat)) ≤ 0 → hw sc (d + 2) 252 0 [(0, (2, 192)), (1, (1, 28526))] [] ψ4 x (fun r ψ17 y17 => y17 = x ∧ (r = none ∧ (0 ≤ (112 + v1) ∧ (112 + v1) < 361 ∧ (0 ≤ ((3 + (ψ17 194 ((112 + v1).toNat))) - 1) ∧ ((3 + (ψ17 194 ((112 + v1).toNat))) - 1) < 66 ∧ (hw sc (d + 2) 252 0 [(0, (2, 192)), (1, (1, ψ17 197 (((3 + (ψ17 194 ((112 + v1).toNat))) - 1).toNat)))] [] ψ17 x (fun r ψ20 y20 => y20 = x ∧ (r = none ∧ (0 ≤ (118 + v1) ∧ (118 + v1) < 361 ∧ (hi (ψ20 194 ((118 + v1).toNat)) ∧ (¬ (ψ20 194 ((118 + v1).toNat)) = 0 → hw sc (d + 2) 252 0 [(0, (2, 192)), (1, (1, 1852143732))] [] ψ20 x (fun r ψ23 y23 => y23 = x ∧ (r = none ∧ (hw sc (d + 2) 204 0 [(0, (2, 192)), (1, (0, v1))] [] ψ23 x (fun r ψ24 y24 => y24 = x ∧ ψ23 = ψ24 ∧ (∃ z24 : Int, r = some (0, z24) ∧ (0 ≤ (11 + z24) ∧ (11 + z24) < 66 ∧ (hw sc (d + 2) 252 0 [(0, (2, 192)), (1, (1, ψ23 197 ((11 + z24).toNat)))] [] ψ23 x (fun r ψ26 y26 => y26 = x ∧ (r = none ∧ (Q (some (0, ψ26 192 28)) ψ26 x))))))))))) ∧ (¬ (¬ (ψ20 194 ((118 + v1).toNat)) = 0) → hw sc (d + 2) 252 0 [(0, (2, 192)), (1, (1, 1836414053))] [] ψ20 x (fun r ψ28 y28 => y28 = x ∧ (r = none ∧ (Q (some (0, ψ28 192 28)) ψ28 x)))))))))))))))))))) ∧ (¬ (¬ z1 = 0) → Q (some (0, (-1 : Int))) (hf_up φ 192 0 0) x))))) :
    hw sc (d + 3) 249 0 [(0, (2, 192)), (1, (0, v1))] [] φ x Q := by
  refine hw_ald (b := 0) (e := 0) (by decide +kernel) rfl (by decide) ?_
  refine hw_k (c := 0) (b := 0) (e := 1) (by decide +kernel) ?_
  refine hr_pi (b := 12) (e := 0) 192 rfl (by decide +kernel) ?_
  refine hw_ald (b := 0) (e := 0) (by decide +kernel) rfl (by decide) ?_
  refine hw_ld (b := 1) (e := 0) (by decide +kernel) rfl ?_
  refine hr_call (a0 := 22) (b := 202) (e := 2) (nl := 2) (As := [(0, v1)]) (R := []) 192 rfl (by decide +kernel) rfl rfl (Nat.le_of_ble_eq_true rfl) (Nat.le_of_ble_eq_true rfl) ?_
  refine hw_mono H ?_
  rintro r ψ1 y1 ⟨hyx, hψx, z1, hr, H⟩
  subst hyx
  subst hψx
  subst hr
  refine ⟨hne0, ?_⟩
  show hw sc (d + 3) 249 10 [(0, (2, 192)), (1, (0, v1))] [(0, z1)] (hf_up φ 192 0 0) y1 Q
  obtain ⟨hz2, ht2, hf2⟩ := H
  refine hw_if (a0 := 0) (b := 1) (e := 15) (by decide +kernel) hz2 (fun q => ?_) (fun q => ?_)
  · have H := ht2 q
    refine hw_ald (b := 0) (e := 0) (by decide +kernel) rfl (by decide) ?_
    refine hw_k (c := 0) (b := 0) (e := 1) (by decide +kernel) ?_
    refine hr_pi (b := 12) (e := 28) 192 rfl (by decide +kernel) ?_
    refine hw_ald (b := 0) (e := 0) (by decide +kernel) rfl (by decide) ?_
    refine hw_ald (b := 0) (e := 0) (by decide +kernel) rfl (by decide) ?_
    refine hr_gr (w := 197) (b := 12) (e := 9) 192 rfl (by decide +kernel) ?_
    refine hw_k (c := 19) (b := 1) (e := 2) (by decide +kernel) ?_
    refine hw_ld (b := 1) (e := 0) (by decide +kernel) rfl ?_
    refine hw_bin (w := 19 + v1) (a0 := 0) (b := 0) (e := 0) (by decide +kernel) rfl ?_
    obtain ⟨hl3, hu3, H⟩ := H
    refine hr_all (a0 := 0) (e := 0) (n := 66) (w := φ 197 ((19 + v1).toNat)) 197 rfl (by decide +kernel) hl3 hu3 ((hf_up_ne (fun q => absurd q.1 (by decide))).trans (hf_up_ne (fun q => absurd q.1 (by decide)))) ?_
    refine hr_call (a0 := 22) (b := 250) (e := 2) (nl := 4) (As := [(1, φ 197 ((19 + v1).toNat))]) (R := []) 192 rfl (by decide +kernel) rfl rfl (Nat.le_of_ble_eq_true rfl) (Nat.le_of_ble_eq_true rfl) ?_
    refine hw_mono H ?_
    rintro r ψ4 y4 ⟨hyx, hr, H⟩
    subst hyx
    subst hr
    refine ⟨hnen, ?_⟩
    show hw sc (d + 3) 249 33 [(0, (2, 192)), (1, (0, v1))] [] ψ4 y4 Q
    refine hw_ald (b := 0) (e := 0) (by decide +kernel) rfl (by decide) ?_
    refine hr_gr (w := 194) (b := 12) (e := 6) 192 rfl (by decide +kernel) ?_
    refine hw_k (c := 112) (b := 1) (e := 2) (by decide +kernel) ?_
    refine hw_ld (b := 1) (e := 0) (by decide +kernel) rfl ?_
    refine hw_bin (w := 112 + v1) (a0 := 0) (b := 0) (e := 0) (by decide +kernel) rfl ?_
    obtain ⟨hl5, hu5, H⟩ := H
    refine hr_al (b := 0) (a0 := 0) (e := 0) (n := 361) (w := ψ4 194 ((112 + v1).toNat)) 194 rfl (by decide +kernel) (by decide) hl5 hu5 rfl ?_
    obtain ⟨hz6, ht6, hf6⟩ := H
    refine hw_if (a0 := 0) (b := 5) (e := 77) (by decide +kernel) hz6 (fun q => ?_) (fun q => ?_)
    · have H := ht6 q
      refine hw_ald (b := 0) (e := 0) (by decide +kernel) rfl (by decide) ?_
      refine hw_lk (c := 7300710) (b := 1) (e := 3) (by decide +kernel) ?_
      refine hr_call (a0 := 22) (b := 252) (e := 2) (nl := 3) (As := [(1, 7300710)]) (R := []) 192 rfl (by decide +kernel) rfl rfl (Nat.le_of_ble_eq_true rfl) (Nat.le_of_ble_eq_true rfl) ?_
      refine hw_mono H ?_
      rintro r ψ7 y7 ⟨hyx, hr, H⟩
      subst hyx
      subst hr
      refine ⟨hnen, ?_⟩
      show hw sc (d + 3) 249 84 [(0, (2, 192)), (1, (0, v1))] [] ψ7 y7 Q
      refine hw_ald (b := 0) (e := 0) (by decide +kernel) rfl (by decide) ?_
      refine hr_gr (w := 194) (b := 12) (e := 6) 192 rfl (by decide +kernel) ?_
      refine hw_k (c := 118) (b := 1) (e := 2) (by decide +kernel) ?_
      refine hw_ld (b := 1) (e := 0) (by decide +kernel) rfl ?_
      refine hw_bin (w := 118 + v1) (a0 := 0) (b := 0) (e := 0) (by decide +kernel) rfl ?_
      obtain ⟨hl8, hu8, H⟩ := H
      refine hr_al (b := 0) (a0 := 0) (e := 0) (n := 361) (w := ψ7 194 ((118 + v1).toNat)) 194 rfl (by decide +kernel) (by decide) hl8 hu8 rfl ?_
      obtain ⟨hz9, ht9, hf9⟩ := H
      refine hw_if (a0 := 0) (b := 1) (e := 106) (by decide +kernel) hz9 (fun q => ?_) (fun q => ?_)
      · have H := ht9 q
        refine hw_ald (b := 0) (e := 0) (by decide +kernel) rfl (by decide) ?_
        refine hw_lk (c := 1852143732) (b := 1) (e := 3) (by decide +kernel) ?_
        refine hr_call (a0 := 22) (b := 252) (e := 2) (nl := 3) (As := [(1, 1852143732)]) (R := []) 192 rfl (by decide +kernel) rfl rfl (Nat.le_of_ble_eq_true rfl) (Nat.le_of_ble_eq_true rfl) ?_
        refine hw_mono H ?_
        rintro r ψ10 y10 ⟨hyx, hr, H⟩
        subst hyx
        subst hr
        refine ⟨hnen, ?_⟩
        show hw sc (d + 3) 249 113 [(0, (2, 192)), (1, (0, v1))] [] ψ10 y10 Q
        refine hw_ald (b := 0) (e := 0) (by decide +kernel) rfl (by decide) ?_
        refine hw_ald (b := 0) (e := 0) (by decide +kernel) rfl (by decide) ?_
        refine hr_gr (w := 197) (b := 12) (e := 9) 192 rfl (by decide +kernel) ?_
        refine hw_k (c := 11) (b := 1) (e := 2) (by decide +kernel) ?_
        refine hw_ald (b := 0) (e := 0) (by decide +kernel) rfl (by decide) ?_
        refine hw_ld (b := 1) (e := 0) (by decide +kernel) rfl ?_
        refine hr_call (a0 := 22) (b := 204) (e := 2) (nl := 2) (As := [(0, v1)]) (R := [(0, 11), (2, 197), (2, 192)]) 192 rfl (by decide +kernel) rfl rfl (Nat.le_of_ble_eq_true rfl) (Nat.le_of_ble_eq_true rfl) ?_
        refine hw_mono H ?_
        rintro r ψ11 y11 ⟨hyx, hψx, z11, hr, H⟩
        subst hyx
        subst hψx
        subst hr
        refine ⟨hne0, ?_⟩
        show hw sc (d + 3) 249 125 [(0, (2, 192)), (1, (0, v1))] [(0, z11), (0, 11), (2, 197), (2, 192)] ψ10 y11 Q
        refine hw_bin (w := 11 + z11) (a0 := 0) (b := 0) (e := 0) (by decide +kernel) rfl ?_
        obtain ⟨hl12, hu12, H⟩ := H
        refine hr_all (a0 := 0) (e := 0) (n := 66) (w := ψ10 197 ((11 + z11).toNat)) 197 rfl (by decide +kernel) hl12 hu12 rfl ?_
        refine hr_call (a0 := 22) (b := 252) (e := 2) (nl := 3) (As := [(1, ψ10 197 ((11 + z11).toNat))]) (R := []) 192 rfl (by decide +kernel) rfl rfl (Nat.le_of_ble_eq_true rfl) (Nat.le_of_ble_eq_true rfl) ?_
        refine hw_mono H ?_
        rintro r ψ13 y13 ⟨hyx, hr, H⟩
        subst hyx
        subst hr
        refine ⟨hnen, ?_⟩
        show hw sc (d + 3) 249 130 [(0, (2, 192)), (1, (0, v1))] [] ψ13 y13 Q
        refine hw_ald (b := 0) (e := 0) (by decide +kernel) rfl (by decide) ?_
        refine hr_gi (w := ψ13 192 28) (b := 12) (e := 28) 192 rfl (by decide +kernel) rfl ?_
        exact hw_ret (a0 := 0) (e := 0) (by decide +kernel) (Or.inl rfl) H
      · have H := hf9 q
        refine hw_ald (b := 0) (e := 0) (by decide +kernel) rfl (by decide) ?_
        refine hw_lk (c := 1836414053) (b := 1) (e := 3) (by decide +kernel) ?_
        refine hr_call (a0 := 22) (b := 252) (e := 2) (nl := 3) (As := [(1, 1836414053)]) (R := []) 192 rfl (by decide +kernel) rfl rfl (Nat.le_of_ble_eq_true rfl) (Nat.le_of_ble_eq_true rfl) ?_
        refine hw_mono H ?_
        rintro r ψ15 y15 ⟨hyx, hr, H⟩
        subst hyx
        subst hr
        refine ⟨hnen, ?_⟩
        show hw sc (d + 3) 249 103 [(0, (2, 192)), (1, (0, v1))] [] ψ15 y15 Q
        refine hw_goto (a0 := 0) (b := 0) (e := 130) (by decide +kernel) ?_
        refine hw_ald (b := 0) (e := 0) (by decide +kernel) rfl (by decide) ?_
        refine hr_gi (w := ψ15 192 28) (b := 12) (e := 28) 192 rfl (by decide +kernel) rfl ?_
        exact hw_ret (a0 := 0) (e := 0) (by decide +kernel) (Or.inl rfl) H
    · have H := hf6 q
      refine hw_ald (b := 0) (e := 0) (by decide +kernel) rfl (by decide) ?_
      refine hw_lk (c := 28526) (b := 1) (e := 3) (by decide +kernel) ?_
      refine hr_call (a0 := 22) (b := 252) (e := 2) (nl := 3) (As := [(1, 28526)]) (R := []) 192 rfl (by decide +kernel) rfl rfl (Nat.le_of_ble_eq_true rfl) (Nat.le_of_ble_eq_true rfl) ?_
      refine hw_mono H ?_
      rintro r ψ17 y17 ⟨hyx, hr, H⟩
      subst hyx
      subst hr
      refine ⟨hnen, ?_⟩
      show hw sc (d + 3) 249 52 [(0, (2, 192)), (1, (0, v1))] [] ψ17 y17 Q
      refine hw_ald (b := 0) (e := 0) (by decide +kernel) rfl (by decide) ?_
      refine hw_ald (b := 0) (e := 0) (by decide +kernel) rfl (by decide) ?_
      refine hr_gr (w := 197) (b := 12) (e := 9) 192 rfl (by decide +kernel) ?_
      refine hw_k (c := 3) (b := 0) (e := 1) (by decide +kernel) ?_
      refine hw_ald (b := 0) (e := 0) (by decide +kernel) rfl (by decide) ?_
      refine hr_gr (w := 194) (b := 12) (e := 6) 192 rfl (by decide +kernel) ?_
      refine hw_k (c := 112) (b := 1) (e := 2) (by decide +kernel) ?_
      refine hw_ld (b := 1) (e := 0) (by decide +kernel) rfl ?_
      refine hw_bin (w := 112 + v1) (a0 := 0) (b := 0) (e := 0) (by decide +kernel) rfl ?_
      obtain ⟨hl18, hu18, H⟩ := H
      refine hr_al (b := 0) (a0 := 0) (e := 0) (n := 361) (w := ψ17 194 ((112 + v1).toNat)) 194 rfl (by decide +kernel) (by decide) hl18 hu18 rfl ?_
      refine hw_bin (w := 3 + (ψ17 194 ((112 + v1).toNat))) (a0 := 0) (b := 0) (e := 0) (by decide +kernel) rfl ?_
      refine hw_k (c := 1) (b := 0) (e := 1) (by decide +kernel) ?_
      refine hw_bin (w := (3 + (ψ17 194 ((112 + v1).toNat))) - 1) (a0 := 0) (b := 1) (e := 0) (by decide +kernel) rfl ?_
      obtain ⟨hl19, hu19, H⟩ := H
      refine hr_all (a0 := 0) (e := 0) (n := 66) (w := ψ17 197 (((3 + (ψ17 194 ((112 + v1).toNat))) - 1).toNat)) 197 rfl (by decide +kernel) hl19 hu19 rfl ?_
      refine hr_call (a0 := 22) (b := 252) (e := 2) (nl := 3) (As := [(1, ψ17 197 (((3 + (ψ17 194 ((112 + v1).toNat))) - 1).toNat))]) (R := []) 192 rfl (by decide +kernel) rfl rfl (Nat.le_of_ble_eq_true rfl) (Nat.le_of_ble_eq_true rfl) ?_
      refine hw_mono H ?_
      rintro r ψ20 y20 ⟨hyx, hr, H⟩
      subst hyx
      subst hr
      refine ⟨hnen, ?_⟩
      show hw sc (d + 3) 249 74 [(0, (2, 192)), (1, (0, v1))] [] ψ20 y20 Q
      refine hw_goto (a0 := 0) (b := 0) (e := 84) (by decide +kernel) ?_
      refine hw_ald (b := 0) (e := 0) (by decide +kernel) rfl (by decide) ?_
      refine hr_gr (w := 194) (b := 12) (e := 6) 192 rfl (by decide +kernel) ?_
      refine hw_k (c := 118) (b := 1) (e := 2) (by decide +kernel) ?_
      refine hw_ld (b := 1) (e := 0) (by decide +kernel) rfl ?_
      refine hw_bin (w := 118 + v1) (a0 := 0) (b := 0) (e := 0) (by decide +kernel) rfl ?_
      obtain ⟨hl21, hu21, H⟩ := H
      refine hr_al (b := 0) (a0 := 0) (e := 0) (n := 361) (w := ψ20 194 ((118 + v1).toNat)) 194 rfl (by decide +kernel) (by decide) hl21 hu21 rfl ?_
      obtain ⟨hz22, ht22, hf22⟩ := H
      refine hw_if (a0 := 0) (b := 1) (e := 106) (by decide +kernel) hz22 (fun q => ?_) (fun q => ?_)
      · have H := ht22 q
        refine hw_ald (b := 0) (e := 0) (by decide +kernel) rfl (by decide) ?_
        refine hw_lk (c := 1852143732) (b := 1) (e := 3) (by decide +kernel) ?_
        refine hr_call (a0 := 22) (b := 252) (e := 2) (nl := 3) (As := [(1, 1852143732)]) (R := []) 192 rfl (by decide +kernel) rfl rfl (Nat.le_of_ble_eq_true rfl) (Nat.le_of_ble_eq_true rfl) ?_
        refine hw_mono H ?_
        rintro r ψ23 y23 ⟨hyx, hr, H⟩
        subst hyx
        subst hr
        refine ⟨hnen, ?_⟩
        show hw sc (d + 3) 249 113 [(0, (2, 192)), (1, (0, v1))] [] ψ23 y23 Q
        refine hw_ald (b := 0) (e := 0) (by decide +kernel) rfl (by decide) ?_
        refine hw_ald (b := 0) (e := 0) (by decide +kernel) rfl (by decide) ?_
        refine hr_gr (w := 197) (b := 12) (e := 9) 192 rfl (by decide +kernel) ?_
        refine hw_k (c := 11) (b := 1) (e := 2) (by decide +kernel) ?_
        refine hw_ald (b := 0) (e := 0) (by decide +kernel) rfl (by decide) ?_
        refine hw_ld (b := 1) (e := 0) (by decide +kernel) rfl ?_
        refine hr_call (a0 := 22) (b := 204) (e := 2) (nl := 2) (As := [(0, v1)]) (R := [(0, 11), (2, 197), (2, 192)]) 192 rfl (by decide +kernel) rfl rfl (Nat.le_of_ble_eq_true rfl) (Nat.le_of_ble_eq_true rfl) ?_
        refine hw_mono H ?_
        rintro r ψ24 y24 ⟨hyx, hψx, z24, hr, H⟩
        subst hyx
        subst hψx
        subst hr
        refine ⟨hne0, ?_⟩
        show hw sc (d + 3) 249 125 [(0, (2, 192)), (1, (0, v1))] [(0, z24), (0, 11), (2, 197), (2, 192)] ψ23 y24 Q
        refine hw_bin (w := 11 + z24) (a0 := 0) (b := 0) (e := 0) (by decide +kernel) rfl ?_
        obtain ⟨hl25, hu25, H⟩ := H
        refine hr_all (a0 := 0) (e := 0) (n := 66) (w := ψ23 197 ((11 + z24).toNat)) 197 rfl (by decide +kernel) hl25 hu25 rfl ?_
        refine hr_call (a0 := 22) (b := 252) (e := 2) (nl := 3) (As := [(1, ψ23 197 ((11 + z24).toNat))]) (R := []) 192 rfl (by decide +kernel) rfl rfl (Nat.le_of_ble_eq_true rfl) (Nat.le_of_ble_eq_true rfl) ?_
        refine hw_mono H ?_
        rintro r ψ26 y26 ⟨hyx, hr, H⟩
        subst hyx
        subst hr
        refine ⟨hnen, ?_⟩
        show hw sc (d + 3) 249 130 [(0, (2, 192)), (1, (0, v1))] [] ψ26 y26 Q
        refine hw_ald (b := 0) (e := 0) (by decide +kernel) rfl (by decide) ?_
        refine hr_gi (w := ψ26 192 28) (b := 12) (e := 28) 192 rfl (by decide +kernel) rfl ?_
        exact hw_ret (a0 := 0) (e := 0) (by decide +kernel) (Or.inl rfl) H
      · have H := hf22 q
        refine hw_ald (b := 0) (e := 0) (by decide +kernel) rfl (by decide) ?_
        refine hw_lk (c := 1836414053) (b := 1) (e := 3) (by decide +kernel) ?_
        refine hr_call (a0 := 22) (b := 252) (e := 2) (nl := 3) (As := [(1, 1836414053)]) (R := []) 192 rfl (by decide +kernel) rfl rfl (Nat.le_of_ble_eq_true rfl) (Nat.le_of_ble_eq_true rfl) ?_
        refine hw_mono H ?_
        rintro r ψ28 y28 ⟨hyx, hr, H⟩
        subst hyx
        subst hr
        refine ⟨hnen, ?_⟩
        show hw sc (d + 3) 249 103 [(0, (2, 192)), (1, (0, v1))] [] ψ28 y28 Q
        refine hw_goto (a0 := 0) (b := 0) (e := 130) (by decide +kernel) ?_
        refine hw_ald (b := 0) (e := 0) (by decide +kernel) rfl (by decide) ?_
        refine hr_gi (w := ψ28 192 28) (b := 12) (e := 28) 192 rfl (by decide +kernel) rfl ?_
        exact hw_ret (a0 := 0) (e := 0) (by decide +kernel) (Or.inl rfl) H
  · have H := hf2 q
    refine hw_k (c := (-1 : Int)) (b := 0) (e := 1) (by decide +kernel) ?_
    exact hw_ret (a0 := 0) (e := 0) (by decide +kernel) (Or.inl rfl) H
theorem sf_249_192 {sc : List Int} {d : Nat} {φ : hf_F} {x : Nat} {Q : Option jm_V → hf_F → Nat → Prop} {v1 : Int} (hI : Inv φ) (h1a : (-2147483648 : Int) ≤ v1) (h1b : v1 ≤ 2147483647) (hQ : ∀ (r : Int) (ψ : hf_F), Inv ψ → Fr [192, 201] φ ψ → True → Q (some (0, r)) ψ x) : hw sc (d + 3) 249 0 [(0, (2, 192)), (1, (0, v1))] [] φ x Q := by
  apply sf_249_192_v
  have i1 : Inv (hf_up φ 192 0 0) := iv_up (lo := 0) (u := 1) hI (by decide +kernel) (by omega) (by omega)
  have r1 : Fr [192, 201] φ (hf_up φ 192 0 0) := fr_up (fr_rf) (by decide)
  refine sf_202_192 (φ := (hf_up φ 192 0 0)) i1 (by omega) (by omega) (fun z1 hp1 => ⟨rfl, rfl, z1, rfl, ?_⟩)
  have f2 : (hf_up φ 192 0 0) 194 3 = φ 194 3 := (hf_up_ne (fun q => absurd q.1 (by decide)))
  have f3 := iv_at (a := 194) (k := 3) (lo := 0) (u := 6) hI (by decide +kernel)
  refine ⟨by unfold hi; omega, fun q2 => ?_, fun q2 => ?_⟩
  · skip
    have i4 : Inv (hf_up (hf_up φ 192 0 0) 192 28 0) := iv_up (lo := 0) (u := 48) i1 (by decide +kernel) (by omega) (by omega)
    have r4 : Fr [192, 201] φ (hf_up (hf_up φ 192 0 0) 192 28 0) := fr_up r1 (by decide)
    refine ⟨by omega, by omega, ?_⟩
    have f5 : (hf_up (hf_up φ 192 0 0) 192 28 0) 192 28 = 0 := hf_up_eq
    refine sf_250_192 (φ := (hf_up (hf_up φ 192 0 0) 192 28 0)) i4 (by omega) (fun ψ4 hI4 hF4 hV4 => ⟨rfl, rfl, ?_⟩)
    have hG4 : Fr [192, 201] φ ψ4 := fr_tr r4 hF4 (by decide)
    have f6 := iv_at (a := 192) (k := 28) (lo := 0) (u := 48) hI4 (by decide +kernel)
    refine ⟨by omega, by omega, ?_⟩
    have f7 := iv_ar (a := 194) (s := 112) (t := 118) (lo := 0) (u := 8) (z := 112 + v1) hI4 (by decide +kernel) (by omega) (by omega)
    have f8 : ψ4 194 ((112 + v1).toNat) = φ 194 ((112 + v1).toNat) := (hF4 194 (by decide) ((112 + v1).toNat)).trans ((hf_up_ne (fun q => absurd q.1 (by decide))).trans (hf_up_ne (fun q => absurd q.1 (by decide))))
    have f9 := iv_ar (a := 194) (s := 112) (t := 118) (lo := 0) (u := 8) (z := 112 + v1) hI (by decide +kernel) (by omega) (by omega)
    refine ⟨by unfold hi; omega, fun q6 => ?_, fun q6 => ?_⟩
    · skip
      refine sf_252_192 (φ := ψ4) hI4 (by omega) (fun ψ7 hI7 hF7 hV7 => ⟨rfl, rfl, ?_⟩)
      have hG7 : Fr [192, 201] φ ψ7 := fr_tr hG4 hF7 (by decide)
      have f10 := iv_at (a := 192) (k := 28) (lo := 0) (u := 48) hI7 (by decide +kernel)
      refine ⟨by omega, by omega, ?_⟩
      have f11 := iv_ar (a := 194) (s := 118) (t := 124) (lo := 0) (u := 6) (z := 118 + v1) hI7 (by decide +kernel) (by omega) (by omega)
      have f12 : ψ7 194 ((118 + v1).toNat) = ψ4 194 ((118 + v1).toNat) := (hF7 194 (by decide) ((118 + v1).toNat))
      have f13 := iv_ar (a := 194) (s := 118) (t := 124) (lo := 0) (u := 6) (z := 118 + v1) hI4 (by decide +kernel) (by omega) (by omega)
      have f14 : ψ4 194 ((118 + v1).toNat) = φ 194 ((118 + v1).toNat) := (hF4 194 (by decide) ((118 + v1).toNat)).trans ((hf_up_ne (fun q => absurd q.1 (by decide))).trans (hf_up_ne (fun q => absurd q.1 (by decide))))
      have f15 := iv_ar (a := 194) (s := 118) (t := 124) (lo := 0) (u := 6) (z := 118 + v1) hI (by decide +kernel) (by omega) (by omega)
      refine ⟨by unfold hi; omega, fun q9 => ?_, fun q9 => ?_⟩
      · skip
        refine sf_252_192 (φ := ψ7) hI7 (by omega) (fun ψ10 hI10 hF10 hV10 => ⟨rfl, rfl, ?_⟩)
        have hG10 : Fr [192, 201] φ ψ10 := fr_tr hG7 hF10 (by decide)
        have f16 := iv_at (a := 192) (k := 28) (lo := 0) (u := 48) hI10 (by decide +kernel)
        refine sf_204_192 (φ := ψ10) hI10 (by omega) (by omega) (fun z11 hp11 => ⟨rfl, rfl, z11, rfl, ?_⟩)
        refine ⟨by omega, by omega, ?_⟩
        refine sf_252_192 (φ := ψ10) hI10 (by omega) (fun ψ13 hI13 hF13 hV13 => ⟨rfl, rfl, ?_⟩)
        have hG13 : Fr [192, 201] φ ψ13 := fr_tr hG10 hF13 (by decide)
        have f17 := iv_at (a := 192) (k := 28) (lo := 0) (u := 48) hI13 (by decide +kernel)
        exact hQ (ψ13 192 28) ψ13 hI13 hG13 trivial
      · skip
        refine sf_252_192 (φ := ψ7) hI7 (by omega) (fun ψ15 hI15 hF15 hV15 => ⟨rfl, rfl, ?_⟩)
        have hG15 : Fr [192, 201] φ ψ15 := fr_tr hG7 hF15 (by decide)
        have f18 := iv_at (a := 192) (k := 28) (lo := 0) (u := 48) hI15 (by decide +kernel)
        exact hQ (ψ15 192 28) ψ15 hI15 hG15 trivial
    · skip
      refine sf_252_192 (φ := ψ4) hI4 (by omega) (fun ψ17 hI17 hF17 hV17 => ⟨rfl, rfl, ?_⟩)
      have hG17 : Fr [192, 201] φ ψ17 := fr_tr hG4 hF17 (by decide)
      have f19 := iv_at (a := 192) (k := 28) (lo := 0) (u := 48) hI17 (by decide +kernel)
      refine ⟨by omega, by omega, ?_⟩
      have f20 := iv_ar (a := 194) (s := 112) (t := 118) (lo := 0) (u := 8) (z := 112 + v1) hI17 (by decide +kernel) (by omega) (by omega)
      have f21 : ψ17 194 ((112 + v1).toNat) = ψ4 194 ((112 + v1).toNat) := (hF17 194 (by decide) ((112 + v1).toNat))
      refine ⟨by omega, by omega, ?_⟩
      refine sf_252_192 (φ := ψ17) hI17 (by omega) (fun ψ20 hI20 hF20 hV20 => ⟨rfl, rfl, ?_⟩)
      have hG20 : Fr [192, 201] φ ψ20 := fr_tr hG17 hF20 (by decide)
      have f22 := iv_at (a := 192) (k := 28) (lo := 0) (u := 48) hI20 (by decide +kernel)
      refine ⟨by omega, by omega, ?_⟩
      have f23 := iv_ar (a := 194) (s := 118) (t := 124) (lo := 0) (u := 6) (z := 118 + v1) hI20 (by decide +kernel) (by omega) (by omega)
      have f24 : ψ20 194 ((118 + v1).toNat) = ψ17 194 ((118 + v1).toNat) := (hF20 194 (by decide) ((118 + v1).toNat))
      have f25 := iv_ar (a := 194) (s := 118) (t := 124) (lo := 0) (u := 6) (z := 118 + v1) hI17 (by decide +kernel) (by omega) (by omega)
      have f26 : ψ17 194 ((118 + v1).toNat) = ψ4 194 ((118 + v1).toNat) := (hF17 194 (by decide) ((118 + v1).toNat))
      have f27 := iv_ar (a := 194) (s := 118) (t := 124) (lo := 0) (u := 6) (z := 118 + v1) hI4 (by decide +kernel) (by omega) (by omega)
      have f28 : ψ4 194 ((118 + v1).toNat) = φ 194 ((118 + v1).toNat) := (hF4 194 (by decide) ((118 + v1).toNat)).trans ((hf_up_ne (fun q => absurd q.1 (by decide))).trans (hf_up_ne (fun q => absurd q.1 (by decide))))
      have f29 := iv_ar (a := 194) (s := 118) (t := 124) (lo := 0) (u := 6) (z := 118 + v1) hI (by decide +kernel) (by omega) (by omega)
      refine ⟨by unfold hi; omega, fun q22 => ?_, fun q22 => ?_⟩
      · skip
        refine sf_252_192 (φ := ψ20) hI20 (by omega) (fun ψ23 hI23 hF23 hV23 => ⟨rfl, rfl, ?_⟩)
        have hG23 : Fr [192, 201] φ ψ23 := fr_tr hG20 hF23 (by decide)
        have f30 := iv_at (a := 192) (k := 28) (lo := 0) (u := 48) hI23 (by decide +kernel)
        refine sf_204_192 (φ := ψ23) hI23 (by omega) (by omega) (fun z24 hp24 => ⟨rfl, rfl, z24, rfl, ?_⟩)
        refine ⟨by omega, by omega, ?_⟩
        refine sf_252_192 (φ := ψ23) hI23 (by omega) (fun ψ26 hI26 hF26 hV26 => ⟨rfl, rfl, ?_⟩)
        have hG26 : Fr [192, 201] φ ψ26 := fr_tr hG23 hF26 (by decide)
        have f31 := iv_at (a := 192) (k := 28) (lo := 0) (u := 48) hI26 (by decide +kernel)
        exact hQ (ψ26 192 28) ψ26 hI26 hG26 trivial
      · skip
        refine sf_252_192 (φ := ψ20) hI20 (by omega) (fun ψ28 hI28 hF28 hV28 => ⟨rfl, rfl, ?_⟩)
        have hG28 : Fr [192, 201] φ ψ28 := fr_tr hG20 hF28 (by decide)
        have f32 := iv_at (a := 192) (k := 28) (lo := 0) (u := 48) hI28 (by decide +kernel)
        exact hQ (ψ28 192 28) ψ28 hI28 hG28 trivial
  · skip
    exact hQ (-1 : Int) (hf_up φ 192 0 0) i1 r1 trivial
theorem sf_257_192_v {sc : List Int} {d : Nat} {φ : hf_F} {x : Nat} {Q : Option jm_V → hf_F → Nat → Prop} {v1 : Int}
    (H : hi (hb_ushr (((φ 192 29) * 1103515245) + 12345) 8) ∧ hi v1 ∧ ¬ v1 = 0 ∧ (Q (some (0, (hb_ushr (((φ 192 29) * 1103515245) + 12345) 8).tmod v1)) (hf_up φ 192 29 (((φ 192 29) * 1103515245) + 12345)) x)) :
    hw sc d 257 0 [(0, (2, 192)), (1, (0, v1))] [] φ x Q := by
  refine hw_ald (b := 0) (e := 0) (by decide +kernel) rfl (by decide) ?_
  refine hw_ald (b := 0) (e := 0) (by decide +kernel) rfl (by decide) ?_
  refine hr_gi (w := φ 192 29) (b := 12) (e := 29) 192 rfl (by decide +kernel) rfl ?_
  refine hw_k (c := 1103515245) (b := 4) (e := 3) (by decide +kernel) ?_
  refine hw_bin (w := (φ 192 29) * 1103515245) (a0 := 0) (b := 2) (e := 0) (by decide +kernel) rfl ?_
  refine hw_k (c := 12345) (b := 2) (e := 3) (by decide +kernel) ?_
  refine hw_bin (w := ((φ 192 29) * 1103515245) + 12345) (a0 := 0) (b := 0) (e := 0) (by decide +kernel) rfl ?_
  refine hr_pi (b := 12) (e := 29) 192 rfl (by decide +kernel) ?_
  refine hw_ald (b := 0) (e := 0) (by decide +kernel) rfl (by decide) ?_
  refine hr_gi (w := ((φ 192 29) * 1103515245) + 12345) (b := 12) (e := 29) 192 rfl (by decide +kernel) hf_up_eq ?_
  refine hw_k (c := 8) (b := 1) (e := 2) (by decide +kernel) ?_
  refine hw_bin (w := hb_ushr (((φ 192 29) * 1103515245) + 12345) 8) (a0 := 0) (b := 8) (e := 0) (by decide +kernel) rfl ?_
  refine hw_ld (b := 1) (e := 0) (by decide +kernel) rfl ?_
  obtain ⟨hz1, hy1, hn1, H⟩ := H
  refine hw_bin (w := (hb_ushr (((φ 192 29) * 1103515245) + 12345) 8).tmod v1) (a0 := 0) (b := 10) (e := 0) (by decide +kernel) (hb_rem hz1 hy1 hn1) ?_
  exact hw_ret (a0 := 0) (e := 0) (by decide +kernel) (Or.inl rfl) H
theorem sf_257_192 {sc : List Int} {d : Nat} {φ : hf_F} {x : Nat} {Q : Option jm_V → hf_F → Nat → Prop} {v1 : Int} (hI : Inv φ) (h1a : 1 ≤ v1) (h1b : v1 ≤ 12) (hQ : ∀ (r : Int) (ψ : hf_F), Inv ψ → Fr [192] φ ψ → 0 ≤ r ∧ r ≤ 11 ∧ r < v1 → Q (some (0, r)) ψ x) : hw sc d 257 0 [(0, (2, 192)), (1, (0, v1))] [] φ x Q := by
  apply sf_257_192_v
  have i1 : Inv (hf_up φ 192 29 (((φ 192 29) * 1103515245) + 12345)) := iv_upn hI (by decide) (by decide) (by decide +kernel)
  have r1 : Fr [192] φ (hf_up φ 192 29 (((φ 192 29) * 1103515245) + 12345)) := fr_up (fr_rf) (by decide)
  have f2 := hr_ushr8 (((φ 192 29) * 1103515245) + 12345)
  have f3 := hr_ushr (((φ 192 29) * 1103515245) + 12345) 8
  refine ⟨by unfold hi; omega, by unfold hi; omega, by omega, ?_⟩
  have f4 := hr_tmod (z := hb_ushr (((φ 192 29) * 1103515245) + 12345) 8) (y := v1) (by omega) (by omega)
  exact hQ ((hb_ushr (((φ 192 29) * 1103515245) + 12345) 8).tmod v1) (hf_up φ 192 29 (((φ 192 29) * 1103515245) + 12345)) i1 r1 ⟨by omega, by omega, by omega⟩
theorem sf_256_192_v {sc : List Int} {d : Nat} {φ : hf_F} {x : Nat} {Q : Option jm_V → hf_F → Nat → Prop} 
    (H : hw sc (d + 1) 257 0 [(0, (2, 192)), (1, (0, 12))] [] φ x (fun r ψ1 y1 => y1 = x ∧ (∃ z1 : Int, r = some (0, z1) ∧ (hi z1 ∧ (¬ z1 = 0 → hi z1 ∧ hi 1 ∧ (¬ z1 = 1 → hi z1 ∧ hi 2 ∧ (¬ z1 = 2 → Q none ψ1 x) ∧ (¬ (¬ z1 = 2) → hw sc (d + 1) 222 0 [(0, (2, 192))] [] ψ1 x (fun r ψ6 y6 => y6 = x ∧ ψ1 = ψ6 ∧ (∃ z6 : Int, r = some (0, z6) ∧ (hi z6 ∧ (¬ z6 = 0 → Q none ψ1 x) ∧ (¬ (¬ z6 = 0) → hw sc (d + 1) 223 0 [(0, (2, 192))] [] ψ1 x (fun r ψ9 y9 => y9 = x ∧ (r = none ∧ (Q none ψ9 x))))))))) ∧ (¬ (¬ z1 = 1) → hi (ψ1 194 3) ∧ ((ψ1 194 3) ≤ 0 → hi z1 ∧ hi 2 ∧ (¬ z1 = 2 → Q none ψ1 x) ∧ (¬ (¬ z1 = 2) → hw sc (d + 1) 222 0 [(0, (2, 192))] [] ψ1 x (fun r ψ14 y14 => y14 = x ∧ ψ1 = ψ14 ∧ (∃ z14 : Int, r = some (0, z14) ∧ (hi z14 ∧ (¬ z14 = 0 → Q none ψ1 x) ∧ (¬ (¬ z14 = 0) → hw sc (d + 1) 223 0 [(0, (2, 192))] [] ψ1 x (fun r ψ17 y17 => y17 = x ∧ (r = none ∧ (Q none ψ17 x))))))))) ∧ (¬ (ψ1 194 3) ≤ 0 → hi (ψ1 194 2) ∧ ((ψ1 194 2) ≤ 0 → hi z1 ∧ hi 2 ∧ (¬ z1 = 2 → Q none ψ1 x) ∧ (¬ (¬ z1 = 2) → hw sc (d + 1) 222 0 [(0, (2, 192))] [] ψ1 x (fun r ψ22 y22 => y22 = x ∧ ψ1 = ψ22 ∧ (∃ z22 : Int, r = some (0, z22) ∧ (hi z22 ∧ (¬ z22 = 0 → Q none ψ1 x) ∧ (¬ (¬ z22 = 0) → hw sc (d + 1) 223 0 [(0, (2, 192))] [] ψ1 x (fun r ψ25 y25 => y25 = x ∧ (r = none ∧ (Q none ψ25 x))))))))) ∧ (¬ (ψ1 194 2) ≤ 0 → hw sc (d + 1) 257 0 [(0, (2, 192)), (1, (0, ψ1 194 3))] [] ψ1 x (fun r ψ27 y27 => y27 = x ∧ (∃ z27 : Int, r = some (0, z27) ∧ (hw sc (d + 1) 257 0 [(0, (2, 192)), (1, (0, ψ27 194 2))] [] ψ27 x (fun r ψ28 y28 => y28 = x ∧ (∃ z28 : Int, r = some (0, z28) ∧ (hw sc (d + 1) 219 0 [(0, (2, 192)), (1, (0, z27))] [] ψ28 x (fun r ψ29 y29 => y29 = x ∧ ψ28 = ψ29 ∧ (∃ z29 : Int, r = some (0, z29) ∧ (hi z29 ∧ (¬ z29 = 0 → hi z1 ∧ hi 2 ∧ (¬ z1 = 2 → Q none ψ28 x) ∧ (¬ (¬ z1 = 2) → hw sc (d + 1) 222 0 [(0, (2, 192))] [] ψ28 x (fun r ψ33 y33 => y33 = x ∧ ψ28 = ψ33 ∧ (∃ z33 : Int, r = some (0, z33) ∧ (hi z33 ∧ (¬ z33 = 0 → Q none ψ28 x) ∧ (¬ (¬ z33 = 0) → hw sc (d + 1) 223 0 [(0, (2, 192))] [] ψ28 x (fun r ψ36 y36 => y36 = x ∧ (r = none ∧ (Q none ψ36 x))))))))) ∧ (¬ (¬ z29 = 0) → hw sc (d + 1) 220 0 [(0, (2, 192)), (1, (0, z27)), (2, (0, z28))] [] ψ28 x (fun r ψ38 y38 => y38 = x ∧ (r = none ∧ (hi z1 ∧ hi 2 ∧ (¬ z1 = 2 → Q none ψ38 x) ∧ (¬ (¬ z1 = 2) → hw sc (d + 1) 222 0 [(0, (2, 192))] [] ψ38 x (fun r ψ41 y41 => y41 = x ∧ ψ38 = ψ41 ∧ (∃ z41 : Int, r = some (0, z41) ∧ (hi z41 ∧ (¬ z41 = 0 → Q none ψ38 x) ∧ (¬ (¬ z41 = 0) → hw sc (d + 1) 223 0 [(0, (2, 192))] [] ψ38 x (fun r ψ44 y44 => y44 = x ∧ (r = none ∧ (Q none ψ44 x))))))))))))))))))))))))) ∧ (¬ (¬ z1 = 0) → hi (ψ1 194 3) ∧ ((ψ1 194 3) ≤ 0 → hi z1 ∧ hi 1 ∧ (¬ z1 = 1 → hi z1 ∧ hi 2 ∧ (¬ z1 = 2 → Q none ψ1 x) ∧ (¬ (¬ z1 = 2) → hw sc (d + 1) 222 0 [(0, (2, 192))] [] ψ1 x (fun r ψ50 y50 => y50 = x ∧ ψ1 = ψ50 ∧ (∃ z50 : Int, r = some (0, z50) ∧ (hi z50 ∧ (¬ z50 = 0 → Q none ψ1 x) ∧ (¬ (¬ z50 = 0) → hw sc (d + 1) 223 0 [(0, (2, 192))] [] ψ1 x (fun r ψ53 y53 => y53 = x ∧ (r = none ∧ (Q none ψ53 x))))))))) ∧ (¬ (¬ z1 = 1) → hi (ψ1 194 3) ∧ ((ψ1 194 3) ≤ 0 → hi z1 ∧ hi 2 ∧ (¬ z1 = 2 → Q none ψ1 x) ∧ (¬ (¬ z1 = 2) → hw sc (d + 1) 222 0 [(0, (2, 192))] [] ψ1 x (fun r ψ58 y58 => y58 = x ∧ ψ1 = ψ58 ∧ (∃ z58 : Int, r = some (0, z58) ∧ (hi z58 ∧ (¬ z58 = 0 → Q none ψ1 x) ∧ (¬ (¬ z58 = 0) → hw sc (d + 1) 223 0 [(0, (2, 192))] [] ψ1 x (fun r ψ61 y61 => y61 = x ∧ (r = none ∧ (Q none ψ61 x))))))))) ∧ (¬ (ψ1 194 3) ≤ 0 → hi (ψ1 194 2) ∧ ((ψ1 194 2) ≤ 0 → hi z1 ∧ hi 2 ∧ (¬ z1 = 2 → Q none ψ1 x) ∧ (¬ (¬ z1 = 2) → hw sc (d + 1) 222 0 [(0, (2, 192))] [] ψ1 x (fun r ψ66 y66 => y66 = x ∧ ψ1 = ψ66 ∧ (∃ z66 : Int, r = some (0, z66) ∧ (hi z66 ∧ (¬ z66 = 0 → Q none ψ1 x) ∧ (¬ (¬ z66 = 0) → hw sc (d + 1) 223 0 [(0, (2, 192))] [] ψ1 x (fun r ψ69 y69 => y69 = x ∧ (r = none ∧ (Q none ψ69 x))))))))) ∧ (¬ (ψ1 194 2) ≤ 0 → hw sc (d + 1) 257 0 [(0, (2, 192)), (1, (0, ψ1 194 3))] [] ψ1 x (fun r ψ71 y71 => y71 = x ∧ (∃ z71 : Int, r = some (0, z71) ∧ (hw sc (d + 1) 257 0 [(0, (2, 192)), (1, (0, ψ71 194 2))] [] ψ71 x (fun r ψ72 y72 => y72 = x ∧ (∃ z72 : Int, r = some (0, z72) ∧ (hw sc (d + 1) 219 0 [(0, (2, 192)), (1, (0, z71))] [] ψ72 x (fun r ψ73 y73 => y73 = x ∧ ψ72 = ψ73 ∧ (∃ z73 : Int, r = some (0, z73) ∧ (hi z73 ∧ (¬ z73 = 0 → hi z1 ∧ hi 2 ∧ (¬ z1 = 2 → Q none ψ72 x) ∧ (¬ (¬ z1 = 2) → hw sc (d + 1) 222 0 [(0, (2, 192))] [] ψ72 x (fun r ψ77 y77 => y77 = x ∧ ψ72 = ψ77 ∧ (∃ z77 : Int, r = some (0, z77) ∧ (hi z77 ∧ (¬ z77 = 0 → Q none ψ72 x) ∧ (¬ (¬ z77 = 0) → hw sc (d + 1) 223 0 [(0, (2, 192))] [] ψ72 x (fun r ψ80 y80 => y80 = x ∧ (r = none ∧ (Q none ψ80 x))))))))) ∧ (¬ (¬ z73 = 0) → hw sc (d + 1) 220 0 [(0, (2, 192)), (1, (0, z71)), (2, (0, z72))] [] ψ72 x (fun r ψ82 y82 => y82 = x ∧ (r = none ∧ (hi z1 ∧ hi 2 ∧ (¬ z1 = 2 → Q none ψ82 x) ∧ (¬ (¬ z1 = 2) → hw sc (d + 1) 222 0 [(0, (2, 192))] [] ψ82 x (fun r ψ85 y85 => y85 = x ∧ ψ82 = ψ85 ∧ (∃ z85 : Int, r = some (0, z85) ∧ (hi z85 ∧ (¬ z85 = 0 → Q none ψ82 x) ∧ (¬ (¬ z85 = 0) → hw sc (d + 1) 223 0 [(0, (2, 192))] [] ψ82 x (fun r ψ88 y88 => y88 = x ∧ (r = none ∧ (Q none ψ88 x))))))))))))))))))))))))) ∧ (¬ (ψ1 194 3) ≤ 0 → hi (ψ1 194 1) ∧ ((ψ1 194 1) ≤ 0 → hi z1 ∧ hi 1 ∧ (¬ z1 = 1 → hi z1 ∧ hi 2 ∧ (¬ z1 = 2 → Q none ψ1 x) ∧ (¬ (¬ z1 = 2) → hw sc (d + 1) 222 0 [(0, (2, 192))] [] ψ1 x (fun r ψ94 y94 => y94 = x ∧ ψ1 = ψ94 ∧ (∃ z94 : Int, r = some (0, z94) ∧ (hi z94 ∧ (¬ z94 = 0 → Q none ψ1 x) ∧ (¬ (¬ z94 = 0) → hw sc (d + 1) 223 0 [(0, (2, 192))] [] ψ1 x (fun r ψ97 y97 => y97 = x ∧ (r = none ∧ (Q none ψ97 x))))))))) ∧ (¬ (¬ z1 = 1) → hi (ψ1 194 3) ∧ ((ψ1 194 3) ≤ 0 → hi z1 ∧ hi 2 ∧ (¬ z1 = 2 → Q none ψ1 x) ∧ (¬ (¬ z1 = 2) → hw sc (d + 1) 222 0 [(0, (2, 192))] [] ψ1 x (fun r ψ102 y102 => y102 = x ∧ ψ1 = ψ102 ∧ (∃ z102 : Int, r = some (0, z102) ∧ (hi z102 ∧ (¬ z102 = 0 → Q none ψ1 x) ∧ (¬ (¬ z102 = 0) → hw sc (d + 1) 223 0 [(0, (2, 192))] [] ψ1 x (fun r ψ105 y105 => y105 = x ∧ (r = none ∧ (Q none ψ105 x))))))))) ∧ (¬ (ψ1 194 3) ≤ 0 → hi (ψ1 194 2) ∧ ((ψ1 194 2) ≤ 0 → hi z1 ∧ hi 2 ∧ (¬ z1 = 2 → Q none ψ1 x) ∧ (¬ (¬ z1 = 2) → hw sc (d + 1) 222 0 [(0, (2, 192))] [] ψ1 x (fun r ψ110 y110 => y110 = x ∧ ψ1 = ψ110 ∧ (∃ z110 : Int, r = some (0, z110) ∧ (hi z110 ∧ (¬ z110 = 0 → Q none ψ1 x) ∧ (¬ (¬ z110 = 0) → hw sc (d + 1) 223 0 [(0, (2, 192))] [] ψ1 x (fun r ψ113 y113 => y113 = x ∧ (r = none ∧ (Q none ψ113 x))))))))) ∧ (¬ (ψ1 194 2) ≤ 0 → hw sc (d + 1) 257 0 [(0, (2, 192)), (1, (0, ψ1 194 3))] [] ψ1 x (fun r ψ115 y115 => y115 = x ∧ (∃ z115 : Int, r = some (0, z115) ∧ (hw sc (d + 1) 257 0 [(0, (2, 192)), (1, (0, ψ115 194 2))] [] ψ115 x (fun r ψ116 y116 => y116 = x ∧ (∃ z116 : Int, r = some (0, z116) ∧ (hw sc (d + 1) 219 0 [(0, (2, 192)), (1, (0, z115))] [] ψ116 x (fun r ψ117 y117 => y117 = x ∧ ψ116 = ψ117 ∧ (∃ z117 : Int, r = some (0, z117) ∧ (hi z117 ∧ (¬ z117 = 0 → hi z1 ∧ hi 2 ∧ (¬ z1 = 2 → Q none ψ116 x) ∧ (¬ (¬ z1 = 2) → hw sc (d + 1) 222 0 [(0, (2, 192))] [] ψ116 x (fun r ψ121 y121 => y121 = x ∧ ψ116 = ψ121 ∧ (∃ z121 : Int, r = some (0, z121) ∧ (hi z121 ∧ (¬ z121 = 0 → Q none ψ116 x) ∧ (¬ (¬ z121 = 0) → hw sc (d + 1) 223 0 [(0, (2, 192))] [] ψ116 x (fun r ψ124 y124 => y124 = x ∧ (r = none ∧ (Q none ψ124 x))))))))) ∧ (¬ (¬ z117 = 0) → hw sc (d + 1) 220 0 [(0, (2, 192)), (1, (0, z115)), (2, (0, z116))] [] ψ116 x (fun r ψ126 y126 => y126 = x ∧ (r = none ∧ (hi z1 ∧ hi 2 ∧ (¬ z1 = 2 → Q none ψ126 x) ∧ (¬ (¬ z1 = 2) → hw sc (d + 1) 222 0 [(0, (2, 192))] [] ψ126 x (fun r ψ129 y129 => y129 = x ∧ ψ126 = ψ129 ∧ (∃ z129 : Int, r = some (0, z129) ∧ (hi z129 ∧ (¬ z129 = 0 → Q none ψ126 x) ∧ (¬ (¬ z129 = 0) → hw sc (d + 1) 223 0 [(0, (2, 192))] [] ψ126 x (fun r ψ132 y132 => y132 = x ∧ (r = none ∧ (Q none ψ132 x))))))))))))))))))))))))) ∧ (¬ (ψ1 194 1) ≤ 0 → hw sc (d + 1) 257 0 [(0, (2, 192)), (1, (0, ψ1 194 3))] [] ψ1 x (fun r ψ134 y134 => y134 = x ∧ (∃ z134 : Int, r = some (0, z134) ∧ (hw sc (d + 1) 257 0 [(0, (2, 192)), (1, (0, ψ134 194 1))] [] ψ134 x (fun r ψ135 y135 => y135 = x ∧ (∃ z135 : Int, r = some (0, z135) ∧ (0 ≤ (112 + z134) ∧ (112 + z134) < 361 ∧ (hi (ψ135 194 ((112 + z134).toNat)) ∧ ((ψ135 194 ((112 + z134).toNat)) ≤ 0 → hw sc (d + 1) 215 0 [(0, (2, 192)), (1, (0, z134)), (2, (0, z135))] [] ψ135 x (fun r ψ138 y138 => y138 = x ∧ ψ135 = ψ138 ∧ (∃ z138 : Int, r = some (0, z138) ∧ (hi z138 ∧ (¬ z138 = 0 → hi z1 ∧ hi 1 ∧ (¬ z1 = 1 → hi z1 ∧ hi 2 ∧ (¬ z1 = 2 → Q none ψ135 x) ∧ (¬ (¬ z1 = 2) → hw sc (d + 1) 222 0 [(0, (2, 192))] [] ψ135 x (fun r ψ143 y143 => y143 = x ∧ ψ135 = ψ143 ∧ (∃ z143 : Int, r = some (0, z143) ∧ (hi z143 ∧ (¬ z143 = 0 → Q none ψ135 x) ∧ (¬ (¬ z143 = 0) → hw sc (d + 1) 223 0 [(0, (2, 192))] [] ψ135 x (fun r ψ146 y146 => y146 = x ∧ (r = none ∧ (Q none ψ146 x))))))))) ∧ (¬ (¬ z1 = 1) → hi (ψ135 194 3) ∧ ((ψ135 194 3) ≤ 0 → hi z1 ∧ hi 2 ∧ (¬ z1 = 2 → Q none ψ135 x) ∧ (¬ (¬ z1 = 2) → hw sc (d + 1) 222 0 [(0, (2, 192))] [] ψ135 x (fun r ψ151 y151 => y151 = x ∧ ψ135 = ψ151 ∧ (∃ z151 : Int, r = some (0, z151) ∧ (hi z151 ∧ (¬ z151 = 0 → Q none ψ135 x) ∧ (¬ (¬ z151 = 0) → hw sc (d + 1) 223 0 [(0, (2, 192))] [] ψ135 x (fun r ψ154 y154 => y154 = x ∧ (r = none ∧ (Q none ψ154 x))))))))) ∧ (¬ (ψ135 194 3) ≤ 0 → hi (ψ135 194 2) ∧ ((ψ135 194 2) ≤ 0 → hi z1 ∧ hi 2 ∧ (¬ z1 = 2 → Q none ψ135 x) ∧ (¬ (¬ z1 = 2) → hw sc (d + 1) 222 0 [(0, (2, 192))] [] ψ135 x (fun r ψ159 y159 => y159 = x ∧ ψ135 = ψ159 ∧ (∃ z159 : Int, r = some (0, z159) ∧ (hi z159 ∧ (¬ z159 = 0 → Q none ψ135 x) ∧ (¬ (¬ z159 = 0) → hw sc (d + 1) 223 0 [(0, (2, 192))] [] ψ135 x (fun r ψ162 y162 => y162 = x ∧ (r = none ∧ (Q none ψ162 x))))))))) ∧ (¬ (ψ135 194 2) ≤ 0 → hw sc (d + 1) 257 0 [(0, (2, 192)), (1, (0, ψ135 194 3))] [] ψ135 x (fun r ψ164 y164 => y164 = x ∧ (∃ z164 : Int, r = some (0, z164) ∧ (hw sc (d + 1) 257 0 [(0, (2, 192)), (1, (0, ψ164 194 2))] [] ψ164 x (fun r ψ165 y165 => y165 = x ∧ (∃ z165 : Int, r = some (0, z165) ∧ (hw sc (d + 1) 219 0 [(0, (2, 192)), (1, (0, z164))] [] ψ165 x (fun r ψ166 y166 => y166 = x ∧ ψ165 = ψ166 ∧ (∃ z166 : Int, r = some (0, z166) ∧ (hi z166 ∧ (¬ z166 = 0 → hi z1 ∧ hi 2 ∧ (¬ z1 = 2 → Q none ψ165 x) ∧ (¬ (¬ z1 = 2) → hw sc (d + 1) 222 0 [(0, (2, 192))] [] ψ165 x (fun r ψ170 y170 => y170 = x ∧ ψ165 = ψ170 ∧ (∃ z170 : Int, r = some (0, z170) ∧ (hi z170 ∧ (¬ z170 = 0 → Q none ψ165 x) ∧ (¬ (¬ z170 = 0) → hw sc (d + 1) 223 0 [(0, (2, 192))] [] ψ165 x (fun r ψ173 y173 => y173 = x ∧ (r = none ∧ (Q none ψ173 x))))))))) ∧ (¬ (¬ z166 = 0) → hw sc (d + 1) 220 0 [(0, (2, 192)), (1, (0, z164)), (2, (0, z165))] [] ψ165 x (fun r ψ175 y175 => y175 = x ∧ (r = none ∧ (hi z1 ∧ hi 2 ∧ (¬ z1 = 2 → Q none ψ175 x) ∧ (¬ (¬ z1 = 2) → hw sc (d + 1) 222 0 [(0, (2, 192))] [] ψ175 x (fun r ψ178 y178 => y178 = x ∧ ψ175 = ψ178 ∧ (∃ z178 : Int, r = some (0, z178) ∧ (hi z178 ∧ (¬ z178 = 0 → Q none ψ175 x) ∧ (¬ (¬ z178 = 0) → hw sc (d + 1) 223 0 [(0, (2, 192))] [] ψ175 x (fun r ψ181 y181 => y181 = x ∧ (r = none ∧ (Q none ψ181 x))))))))))))))))))))))))) ∧ (¬ (¬ z138 = 0) → 0 ≤ (112 + z134) ∧ (112 + z134) < 361 ∧ (hi z1 ∧ hi 1 ∧ (¬ z1 = 1 → hi z1 ∧ hi 2 ∧ (¬ z1 = 2 → Q none (hf_up ψ135 194 ((112 + z134).toNat) (z135 + 1)) x) ∧ (¬ (¬ z1 = 2) → hw sc (d + 1) 222 0 [(0, (2, 192))] [] (hf_up ψ135 194 ((112 + z134).toNat) (z135 + 1)) x (fun r ψ187 y187 => y187 = x ∧ (hf_up ψ135 194 ((112 + z134).toNat) (z135 + 1)) = ψ187 ∧ (∃ z187 : Int, r = some (0, z187) ∧ (hi z187 ∧ (¬ z187 = 0 → Q none (hf_up ψ135 194 ((112 + z134).toNat) (z135 + 1)) x) ∧ (¬ (¬ z187 = 0) → hw sc (d + 1) 223 0 [(0, (2, 192))] [] (hf_up ψ135 194 ((112 + z134).toNat) (z135 + 1)) x (fun r ψ190 y190 => y190 = x ∧ (r = none ∧ (Q none ψ190 x))))))))) ∧ (¬ (¬ z1 = 1) → hi ((hf_up ψ135 194 ((112 + z134).toNat) (z135 + 1)) 194 3) ∧ (((hf_up ψ135 194 ((112 + z134).toNat) (z135 + 1)) 194 3) ≤ 0 → hi z1 ∧ hi 2 ∧ (¬ z1 = 2 → Q none (hf_up ψ135 194 ((112 + z134).toNat) (z135 + 1)) x) ∧ (¬ (¬ z1 = 2) → hw sc (d + 1) 222 0 [(0, (2, 192))] [] (hf_up ψ135 194 ((112 + z134).toNat) (z135 + 1)) x (fun r ψ195 y195 => y195 = x ∧ (hf_up ψ135 194 ((112 + z134).toNat) (z135 + 1)) = ψ195 ∧ (∃ z195 : Int, r = some (0, z195) ∧ (hi z195 ∧ (¬ z195 = 0 → Q none (hf_up ψ135 194 ((112 + z134).toNat) (z135 + 1)) x) ∧ (¬ (¬ z195 = 0) → hw sc (d + 1) 223 0 [(0, (2, 192))] [] (hf_up ψ135 194 ((112 + z134).toNat) (z135 + 1)) x (fun r ψ198 y198 => y198 = x ∧ (r = none ∧ (Q none ψ198 x))))))))) ∧ (¬ ((hf_up ψ135 194 ((112 + z134).toNat) (z135 + 1)) 194 3) ≤ 0 → hi ((hf_up ψ135 194 ((112 + z134).toNat) (z135 + 1)) 194 2) ∧ (((hf_up ψ135 194 ((112 + z134).toNat) (z135 + 1)) 194 2) ≤ 0 → hi z1 ∧ hi 2 ∧ (¬ z1 = 2 → Q none (hf_up ψ135 194 ((112 + z134).toNat) (z135 + 1)) x) ∧ (¬ (¬ z1 = 2) → hw sc (d + 1) 222 0 [(0, (2, 192))] [] (hf_up ψ135 194 ((112 + z134).toNat) (z135 + 1)) x (fun r ψ203 y203 => y203 = x ∧ (hf_up ψ135 194 ((112 + z134).toNat) (z135 + 1)) = ψ203 ∧ (∃ z203 : Int, r = some (0, z203) ∧ (hi z203 ∧ (¬ z203 = 0 → Q none (hf_up ψ135 194 ((112 + z134).toNat) (z135 + 1)) x) ∧ (¬ (¬ z203 = 0) → hw sc (d + 1) 223 0 [(0, (2, 192))] [] (hf_up ψ135 194 ((112 + z134).toNat) (z135 + 1)) x (fun r ψ206 y206 => y206 = x ∧ (r = none ∧ (Q none ψ206 x))))))))) ∧ (¬ ((hf_up ψ135 194 ((112 + z134).toNat) (z135 + 1)) 194 2) ≤ 0 → hw sc (d + 1) 257 0 [(0, (2, 192)), (1, (0, (hf_up ψ135 194 ((112 + z134).toNat) (z135 + 1)) 194 3))] [] (hf_up ψ135 194 ((112 + z134).toNat) (z135 + 1)) x (fun r ψ208 y208 => y208 = x ∧ (∃ z208 : Int, r = some (0, z208) ∧ (hw sc (d + 1) 257 0 [(0, (2, 192)), (1, (0, ψ208 194 2))] [] ψ208 x (fun r ψ209 y209 => y209 = x ∧ (∃ z209 : Int, r = some (0, z209) ∧ (hw sc (d + 1) 219 0 [(0, (2, 192)), (1, (0, z208))] [] ψ209 x (fun r ψ210 y210 => y210 = x ∧ ψ209 = ψ210 ∧ (∃ z210 : Int, r = some (0, z210) ∧ (hi z210 ∧ (¬ z210 = 0 → hi z1 ∧ hi 2 ∧ (¬ z1 = 2 → Q none ψ209 x) ∧ (¬ (¬ z1 = 2) → hw sc (d + 1) 222 0 [(0, (2, 192))] [] ψ209 x (fun r ψ214 y214 => y214 = x ∧ ψ209 = ψ214 ∧ (∃ z214 : Int, r = some (0, z214) ∧ (hi z214 ∧ (¬ z214 = 0 → Q none ψ209 x) ∧ (¬ (¬ z214 = 0) → hw sc (d + 1) 223 0 [(0, (2, 192))] [] ψ209 x (fun r ψ217 y217 => y217 = x ∧ (r = none ∧ (Q none ψ217 x))))))))) ∧ (¬ (¬ z210 = 0) → hw sc (d + 1) 220 0 [(0, (2, 192)), (1, (0, z208)), (2, (0, z209))] [] ψ209 x (fun r ψ219 y219 => y219 = x ∧ (r = none ∧ (hi z1 ∧ hi 2 ∧ (¬ z1 = 2 → Q none ψ219 x) ∧ (¬ (¬ z1 = 2) → hw sc (d + 1) 222 0 [(0, (2, 192))] [] ψ219 x (fun r ψ222 y222 => y222 = x ∧ ψ219 = ψ222 ∧ (∃ z222 : Int, r = some (0, z222) ∧ (hi z222 ∧ (¬ z222 = 0 → Q none ψ219 x) ∧ (¬ (¬ z222 = 0) → hw sc (d + 1) 223 0 [(0, (2, 192))] [] ψ219 x (fun r ψ225 y225 => y225 = x ∧ (r = none ∧ (Q none ψ225 x)))))))))))))))))))))))))))))) ∧ (¬ (ψ135 194 ((112 + z134).toNat)) ≤ 0 → 0 ≤ (112 + z134) ∧ (112 + z134) < 361 ∧ (hi z1 ∧ hi 1 ∧ (¬ z1 = 1 → hi z1 ∧ hi 2 ∧ (¬ z1 = 2 → Q none (hf_up ψ135 194 ((112 + z134).toNat) 0) x) ∧ (¬ (¬ z1 = 2) → hw sc (d + 1) 222 0 [(0, (2, 192))] [] (hf_up ψ135 194 ((112 + z134).toNat) 0) x (fun r ψ231 y231 => y231 = x ∧ (hf_up ψ135 194 ((112 + z134).toNat) 0) = ψ231 ∧ (∃ z231 : Int, r = some (0, z231) ∧ (hi z231 ∧ (¬ z231 = 0 → Q none (hf_up ψ135 194 ((112 + z134).toNat) 0) x) ∧ (¬ (¬ z231 = 0) → hw sc (d + 1) 223 0 [(0, (2, 192))] [] (hf_up ψ135 194 ((112 + z134).toNat) 0) x (fun r ψ234 y234 => y234 = x ∧ (r = none ∧ (Q none ψ234 x))))))))) ∧ (¬ (¬ z1 = 1) → hi ((hf_up ψ135 194 ((112 + z134).toNat) 0) 194 3) ∧ (((hf_up ψ135 194 ((112 + z134).toNat) 0) 194 3) ≤ 0 → hi z1 ∧ hi 2 ∧ (¬ z1 = 2 → Q none (hf_up ψ135 194 ((112 + z134).toNat) 0) x) ∧ (¬ (¬ z1 = 2) → hw sc (d + 1) 222 0 [(0, (2, 192))] [] (hf_up ψ135 194 ((112 + z134).toNat) 0) x (fun r ψ239 y239 => y239 = x ∧ (hf_up ψ135 194 ((112 + z134).toNat) 0) = ψ239 ∧ (∃ z239 : Int, r = some (0, z239) ∧ (hi z239 ∧ (¬ z239 = 0 → Q none (hf_up ψ135 194 ((112 + z134).toNat) 0) x) ∧ (¬ (¬ z239 = 0) → hw sc (d + 1) 223 0 [(0, (2, 192))] [] (hf_up ψ135 194 ((112 + z134).toNat) 0) x (fun r ψ242 y242 => y242 = x ∧ (r = none ∧ (Q none ψ242 x))))))))) ∧ (¬ ((hf_up ψ135 194 ((112 + z134).toNat) 0) 194 3) ≤ 0 → hi ((hf_up ψ135 194 ((112 + z134).toNat) 0) 194 2) ∧ (((hf_up ψ135 194 ((112 + z134).toNat) 0) 194 2) ≤ 0 → hi z1 ∧ hi 2 ∧ (¬ z1 = 2 → Q none (hf_up ψ135 194 ((112 + z134).toNat) 0) x) ∧ (¬ (¬ z1 = 2) → hw sc (d + 1) 222 0 [(0, (2, 192))] [] (hf_up ψ135 194 ((112 + z134).toNat) 0) x (fun r ψ247 y247 => y247 = x ∧ (hf_up ψ135 194 ((112 + z134).toNat) 0) = ψ247 ∧ (∃ z247 : Int, r = some (0, z247) ∧ (hi z247 ∧ (¬ z247 = 0 → Q none (hf_up ψ135 194 ((112 + z134).toNat) 0) x) ∧ (¬ (¬ z247 = 0) → hw sc (d + 1) 223 0 [(0, (2, 192))] [] (hf_up ψ135 194 ((112 + z134).toNat) 0) x (fun r ψ250 y250 => y250 = x ∧ (r = none ∧ (Q none ψ250 x))))))))) ∧ (¬ ((hf_up ψ135 194 ((112 + z134).toNat) 0) 194 2) ≤ 0 → hw sc (d + 1) 257 0 [(0, (2, 192)), (1, (0, (hf_up ψ135 194 ((112 + z134).toNat) 0) 194 3))] [] (hf_up ψ135 194 ((112 + z134).toNat) 0) x (fun r ψ252 y252 => y252 = x ∧ (∃ z252 : Int, r = some (0, z252) ∧ (hw sc (d + 1) 257 0 [(0, (2, 192)), (1, (0, ψ252 194 2))] [] ψ252 x (fun r ψ253 y253 => y253 = x ∧ (∃ z253 : Int, r = some (0, z253) ∧ (hw sc (d + 1) 219 0 [(0, (2, 192)), (1, (0, z252))] [] ψ253 x (fun r ψ254 y254 => y254 = x ∧ ψ253 = ψ254 ∧ (∃ z254 : Int, r = some (0, z254) ∧ (hi z254 ∧ (¬ z254 = 0 → hi z1 ∧ hi 2 ∧ (¬ z1 = 2 → Q none ψ253 x) ∧ (¬ (¬ z1 = 2) → hw sc (d + 1) 222 0 [(0, (2, 192))] [] ψ253 x (fun r ψ258 y258 => y258 = x ∧ ψ253 = ψ258 ∧ (∃ z258 : Int, r = some (0, z258) ∧ (hi z258 ∧ (¬ z258 = 0 → Q none ψ253 x) ∧ (¬ (¬ z258 = 0) → hw sc (d + 1) 223 0 [(0, (2, 192))] [] ψ253 x (fun r ψ261 y261 => y261 = x ∧ (r = none ∧ (Q none ψ261 x))))))))) ∧ (¬ (¬ z254 = 0) → hw sc (d + 1) 220 0 [(0, (2, 192)), (1, (0, z252)), (2, (0, z253))] [] ψ253 x (fun r ψ263 y263 => y263 = x ∧ (r = none ∧ (hi z1 ∧ hi 2 ∧ (¬ z1 = 2 → Q none ψ263 x) ∧ (¬ (¬ z1 = 2) → hw sc (d + 1) 222 0 [(0, (2, 192))] [] ψ263 x (fun r ψ266 y266 => y266 = x ∧ ψ263 = ψ266 ∧ (∃ z266 : Int, r = some (0, z266) ∧ (hi z266 ∧ (¬ z266 = 0 → Q none ψ263 x) ∧ (¬ (¬ z266 = 0) → hw sc (d + 1) 223 0 [(0, (2, 192))] [] ψ263 x (fun r ψ269 y269 => y269 = x ∧ (r = none ∧ (Q none ψ269 x)))))))))))))))))))))))))))))))))))))))) :
    hw sc (d + 2) 256 0 [(0, (2, 192))] [] φ x Q := by
  refine hw_ald (b := 0) (e := 0) (by decide +kernel) rfl (by decide) ?_
  refine hw_k (c := 12) (b := 1) (e := 2) (by decide +kernel) ?_
  refine hr_call (a0 := 22) (b := 257) (e := 2) (nl := 2) (As := [(0, 12)]) (R := []) 192 rfl (by decide +kernel) rfl rfl (Nat.le_of_ble_eq_true rfl) (Nat.le_of_ble_eq_true rfl) ?_
  refine hw_mono H ?_
  rintro r ψ1 y1 ⟨hyx, z1, hr, H⟩
  subst hyx
  subst hr
  refine ⟨hne0, ?_⟩
  show hw sc (d + 2) 256 6 [(0, (2, 192))] [(0, z1)] ψ1 y1 Q
  refine hw_st (L' := (jm_st1 [(0, (2, 192))] 1 (0, z1))) (b := 1) (e := 0) (by decide +kernel) rfl ?_
  refine hw_ld (b := 1) (e := 0) (by decide +kernel) get_st1e ?_
  obtain ⟨hz2, ht2, hf2⟩ := H
  refine hw_if (a0 := 0) (b := 1) (e := 97) (by decide +kernel) hz2 (fun q => ?_) (fun q => ?_)
  · have H := ht2 q
    refine hw_ld (b := 1) (e := 0) (by decide +kernel) get_st1e ?_
    refine hw_k (c := 1) (b := 0) (e := 1) (by decide +kernel) ?_
    obtain ⟨hz3, hy3, ht3, hf3⟩ := H
    refine hw_if2 (a0 := 0) (b := 1) (e := 156) (by decide +kernel) hz3 hy3 (fun q => ?_) (fun q => ?_)
    · have H := ht3 q
      refine hw_ld (b := 1) (e := 0) (by decide +kernel) get_st1e ?_
      refine hw_k (c := 2) (b := 0) (e := 1) (by decide +kernel) ?_
      obtain ⟨hz4, hy4, ht4, hf4⟩ := H
      refine hw_if2 (a0 := 0) (b := 1) (e := 172) (by decide +kernel) hz4 hy4 (fun q => ?_) (fun q => ?_)
      · have H := ht4 q
        exact hw_vret (a0 := 0) (e := 0) (by decide +kernel) H
      · have H := hf4 q
        refine hw_ald (b := 0) (e := 0) (by decide +kernel) (get_st1 rfl (by decide) (fun q => tg2 q.2)) (by decide) ?_
        refine hr_call (a0 := 22) (b := 222) (e := 1) (nl := 1) (As := []) (R := []) 192 rfl (by decide +kernel) rfl rfl (Nat.le_of_ble_eq_true rfl) (Nat.le_of_ble_eq_true rfl) ?_
        refine hw_mono H ?_
        rintro r ψ6 y6 ⟨hyx, hψx, z6, hr, H⟩
        subst hyx
        subst hψx
        subst hr
        refine ⟨hne0, ?_⟩
        show hw sc (d + 2) 256 165 (jm_st1 [(0, (2, 192))] 1 (0, z1)) [(0, z6)] ψ1 y6 Q
        obtain ⟨hz7, ht7, hf7⟩ := H
        refine hw_if (a0 := 0) (b := 1) (e := 172) (by decide +kernel) hz7 (fun q => ?_) (fun q => ?_)
        · have H := ht7 q
          exact hw_vret (a0 := 0) (e := 0) (by decide +kernel) H
        · have H := hf7 q
          refine hw_ald (b := 0) (e := 0) (by decide +kernel) (get_st1 rfl (by decide) (fun q => tg2 q.2)) (by decide) ?_
          refine hr_call (a0 := 22) (b := 223) (e := 1) (nl := 2) (As := []) (R := []) 192 rfl (by decide +kernel) rfl rfl (Nat.le_of_ble_eq_true rfl) (Nat.le_of_ble_eq_true rfl) ?_
          refine hw_mono H ?_
          rintro r ψ9 y9 ⟨hyx, hr, H⟩
          subst hyx
          subst hr
          refine ⟨hnen, ?_⟩
          show hw sc (d + 2) 256 172 (jm_st1 [(0, (2, 192))] 1 (0, z1)) [] ψ9 y9 Q
          exact hw_vret (a0 := 0) (e := 0) (by decide +kernel) H
    · have H := hf3 q
      refine hw_ald (b := 0) (e := 0) (by decide +kernel) (get_st1 rfl (by decide) (fun q => tg2 q.2)) (by decide) ?_
      refine hr_gr (w := 194) (b := 12) (e := 6) 192 rfl (by decide +kernel) ?_
      refine hw_k (c := 3) (b := 0) (e := 1) (by decide +kernel) ?_
      refine hr_al (b := 0) (a0 := 0) (e := 0) (n := 361) (w := ψ1 194 3) 194 rfl (by decide +kernel) (by decide) (by decide) (by decide) rfl ?_
      obtain ⟨hz11, ht11, hf11⟩ := H
      refine hw_if (a0 := 0) (b := 5) (e := 156) (by decide +kernel) hz11 (fun q => ?_) (fun q => ?_)
      · have H := ht11 q
        refine hw_ld (b := 1) (e := 0) (by decide +kernel) get_st1e ?_
        refine hw_k (c := 2) (b := 0) (e := 1) (by decide +kernel) ?_
        obtain ⟨hz12, hy12, ht12, hf12⟩ := H
        refine hw_if2 (a0 := 0) (b := 1) (e := 172) (by decide +kernel) hz12 hy12 (fun q => ?_) (fun q => ?_)
        · have H := ht12 q
          exact hw_vret (a0 := 0) (e := 0) (by decide +kernel) H
        · have H := hf12 q
          refine hw_ald (b := 0) (e := 0) (by decide +kernel) (get_st1 rfl (by decide) (fun q => tg2 q.2)) (by decide) ?_
          refine hr_call (a0 := 22) (b := 222) (e := 1) (nl := 1) (As := []) (R := []) 192 rfl (by decide +kernel) rfl rfl (Nat.le_of_ble_eq_true rfl) (Nat.le_of_ble_eq_true rfl) ?_
          refine hw_mono H ?_
          rintro r ψ14 y14 ⟨hyx, hψx, z14, hr, H⟩
          subst hyx
          subst hψx
          subst hr
          refine ⟨hne0, ?_⟩
          show hw sc (d + 2) 256 165 (jm_st1 [(0, (2, 192))] 1 (0, z1)) [(0, z14)] ψ1 y14 Q
          obtain ⟨hz15, ht15, hf15⟩ := H
          refine hw_if (a0 := 0) (b := 1) (e := 172) (by decide +kernel) hz15 (fun q => ?_) (fun q => ?_)
          · have H := ht15 q
            exact hw_vret (a0 := 0) (e := 0) (by decide +kernel) H
          · have H := hf15 q
            refine hw_ald (b := 0) (e := 0) (by decide +kernel) (get_st1 rfl (by decide) (fun q => tg2 q.2)) (by decide) ?_
            refine hr_call (a0 := 22) (b := 223) (e := 1) (nl := 2) (As := []) (R := []) 192 rfl (by decide +kernel) rfl rfl (Nat.le_of_ble_eq_true rfl) (Nat.le_of_ble_eq_true rfl) ?_
            refine hw_mono H ?_
            rintro r ψ17 y17 ⟨hyx, hr, H⟩
            subst hyx
            subst hr
            refine ⟨hnen, ?_⟩
            show hw sc (d + 2) 256 172 (jm_st1 [(0, (2, 192))] 1 (0, z1)) [] ψ17 y17 Q
            exact hw_vret (a0 := 0) (e := 0) (by decide +kernel) H
      · have H := hf11 q
        refine hw_ald (b := 0) (e := 0) (by decide +kernel) (get_st1 rfl (by decide) (fun q => tg2 q.2)) (by decide) ?_
        refine hr_gr (w := 194) (b := 12) (e := 6) 192 rfl (by decide +kernel) ?_
        refine hw_k (c := 2) (b := 0) (e := 1) (by decide +kernel) ?_
        refine hr_al (b := 0) (a0 := 0) (e := 0) (n := 361) (w := ψ1 194 2) 194 rfl (by decide +kernel) (by decide) (by decide) (by decide) rfl ?_
        obtain ⟨hz19, ht19, hf19⟩ := H
        refine hw_if (a0 := 0) (b := 5) (e := 156) (by decide +kernel) hz19 (fun q => ?_) (fun q => ?_)
        · have H := ht19 q
          refine hw_ld (b := 1) (e := 0) (by decide +kernel) get_st1e ?_
          refine hw_k (c := 2) (b := 0) (e := 1) (by decide +kernel) ?_
          obtain ⟨hz20, hy20, ht20, hf20⟩ := H
          refine hw_if2 (a0 := 0) (b := 1) (e := 172) (by decide +kernel) hz20 hy20 (fun q => ?_) (fun q => ?_)
          · have H := ht20 q
            exact hw_vret (a0 := 0) (e := 0) (by decide +kernel) H
          · have H := hf20 q
            refine hw_ald (b := 0) (e := 0) (by decide +kernel) (get_st1 rfl (by decide) (fun q => tg2 q.2)) (by decide) ?_
            refine hr_call (a0 := 22) (b := 222) (e := 1) (nl := 1) (As := []) (R := []) 192 rfl (by decide +kernel) rfl rfl (Nat.le_of_ble_eq_true rfl) (Nat.le_of_ble_eq_true rfl) ?_
            refine hw_mono H ?_
            rintro r ψ22 y22 ⟨hyx, hψx, z22, hr, H⟩
            subst hyx
            subst hψx
            subst hr
            refine ⟨hne0, ?_⟩
            show hw sc (d + 2) 256 165 (jm_st1 [(0, (2, 192))] 1 (0, z1)) [(0, z22)] ψ1 y22 Q
            obtain ⟨hz23, ht23, hf23⟩ := H
            refine hw_if (a0 := 0) (b := 1) (e := 172) (by decide +kernel) hz23 (fun q => ?_) (fun q => ?_)
            · have H := ht23 q
              exact hw_vret (a0 := 0) (e := 0) (by decide +kernel) H
            · have H := hf23 q
              refine hw_ald (b := 0) (e := 0) (by decide +kernel) (get_st1 rfl (by decide) (fun q => tg2 q.2)) (by decide) ?_
              refine hr_call (a0 := 22) (b := 223) (e := 1) (nl := 2) (As := []) (R := []) 192 rfl (by decide +kernel) rfl rfl (Nat.le_of_ble_eq_true rfl) (Nat.le_of_ble_eq_true rfl) ?_
              refine hw_mono H ?_
              rintro r ψ25 y25 ⟨hyx, hr, H⟩
              subst hyx
              subst hr
              refine ⟨hnen, ?_⟩
              show hw sc (d + 2) 256 172 (jm_st1 [(0, (2, 192))] 1 (0, z1)) [] ψ25 y25 Q
              exact hw_vret (a0 := 0) (e := 0) (by decide +kernel) H
        · have H := hf19 q
          refine hw_ald (b := 0) (e := 0) (by decide +kernel) (get_st1 rfl (by decide) (fun q => tg2 q.2)) (by decide) ?_
          refine hw_ald (b := 0) (e := 0) (by decide +kernel) (get_st1 rfl (by decide) (fun q => tg2 q.2)) (by decide) ?_
          refine hr_gr (w := 194) (b := 12) (e := 6) 192 rfl (by decide +kernel) ?_
          refine hw_k (c := 3) (b := 0) (e := 1) (by decide +kernel) ?_
          refine hr_al (b := 0) (a0 := 0) (e := 0) (n := 361) (w := ψ1 194 3) 194 rfl (by decide +kernel) (by decide) (by decide) (by decide) rfl ?_
          refine hr_call (a0 := 22) (b := 257) (e := 2) (nl := 2) (As := [(0, ψ1 194 3)]) (R := []) 192 rfl (by decide +kernel) rfl rfl (Nat.le_of_ble_eq_true rfl) (Nat.le_of_ble_eq_true rfl) ?_
          refine hw_mono H ?_
          rintro r ψ27 y27 ⟨hyx, z27, hr, H⟩
          subst hyx
          subst hr
          refine ⟨hne0, ?_⟩
          show hw sc (d + 2) 256 130 (jm_st1 [(0, (2, 192))] 1 (0, z1)) [(0, z27)] ψ27 y27 Q
          refine hw_st (L' := (jm_st1 (jm_st1 [(0, (2, 192))] 1 (0, z1)) 2 (0, z27))) (b := 2) (e := 0) (by decide +kernel) rfl ?_
          refine hw_ald (b := 0) (e := 0) (by decide +kernel) (get_st1 (get_st1 rfl (by decide) (fun q => tg2 q.2)) (by decide) (fun q => absurd q.1 (by decide))) (by decide) ?_
          refine hw_ald (b := 0) (e := 0) (by decide +kernel) (get_st1 (get_st1 rfl (by decide) (fun q => tg2 q.2)) (by decide) (fun q => absurd q.1 (by decide))) (by decide) ?_
          refine hr_gr (w := 194) (b := 12) (e := 6) 192 rfl (by decide +kernel) ?_
          refine hw_k (c := 2) (b := 0) (e := 1) (by decide +kernel) ?_
          refine hr_al (b := 0) (a0 := 0) (e := 0) (n := 361) (w := ψ27 194 2) 194 rfl (by decide +kernel) (by decide) (by decide) (by decide) rfl ?_
          refine hr_call (a0 := 22) (b := 257) (e := 2) (nl := 2) (As := [(0, ψ27 194 2)]) (R := []) 192 rfl (by decide +kernel) rfl rfl (Nat.le_of_ble_eq_true rfl) (Nat.le_of_ble_eq_true rfl) ?_
          refine hw_mono H ?_
          rintro r ψ28 y28 ⟨hyx, z28, hr, H⟩
          subst hyx
          subst hr
          refine ⟨hne0, ?_⟩
          show hw sc (d + 2) 256 141 (jm_st1 (jm_st1 [(0, (2, 192))] 1 (0, z1)) 2 (0, z27)) [(0, z28)] ψ28 y28 Q
          refine hw_st (L' := (jm_st1 (jm_st1 (jm_st1 [(0, (2, 192))] 1 (0, z1)) 2 (0, z27)) 3 (0, z28))) (b := 3) (e := 0) (by decide +kernel) rfl ?_
          refine hw_ald (b := 0) (e := 0) (by decide +kernel) (get_st1 (get_st1 (get_st1 rfl (by decide) (fun q => tg2 q.2)) (by decide) (fun q => absurd q.1 (by decide))) (by decide) (fun q => absurd q.1 (by decide))) (by decide) ?_
          refine hw_ld (b := 2) (e := 0) (by decide +kernel) (get_st1 get_st1e (by decide) (fun q => tg0 q.2)) ?_
          refine hr_call (a0 := 22) (b := 219) (e := 2) (nl := 2) (As := [(0, z27)]) (R := []) 192 rfl (by decide +kernel) rfl rfl (Nat.le_of_ble_eq_true rfl) (Nat.le_of_ble_eq_true rfl) ?_
          refine hw_mono H ?_
          rintro r ψ29 y29 ⟨hyx, hψx, z29, hr, H⟩
          subst hyx
          subst hψx
          subst hr
          refine ⟨hne0, ?_⟩
          show hw sc (d + 2) 256 147 (jm_st1 (jm_st1 (jm_st1 [(0, (2, 192))] 1 (0, z1)) 2 (0, z27)) 3 (0, z28)) [(0, z29)] ψ28 y29 Q
          obtain ⟨hz30, ht30, hf30⟩ := H
          refine hw_if (a0 := 0) (b := 1) (e := 156) (by decide +kernel) hz30 (fun q => ?_) (fun q => ?_)
          · have H := ht30 q
            refine hw_ld (b := 1) (e := 0) (by decide +kernel) (get_st1 (get_st1 get_st1e (by decide) (fun q => tg0 q.2)) (by decide) (fun q => absurd q.1 (by decide))) ?_
            refine hw_k (c := 2) (b := 0) (e := 1) (by decide +kernel) ?_
            obtain ⟨hz31, hy31, ht31, hf31⟩ := H
            refine hw_if2 (a0 := 0) (b := 1) (e := 172) (by decide +kernel) hz31 hy31 (fun q => ?_) (fun q => ?_)
            · have H := ht31 q
              exact hw_vret (a0 := 0) (e := 0) (by decide +kernel) H
            · have H := hf31 q
              refine hw_ald (b := 0) (e := 0) (by decide +kernel) (get_st1 (get_st1 (get_st1 rfl (by decide) (fun q => tg2 q.2)) (by decide) (fun q => absurd q.1 (by decide))) (by decide) (fun q => absurd q.1 (by decide))) (by decide) ?_
              refine hr_call (a0 := 22) (b := 222) (e := 1) (nl := 1) (As := []) (R := []) 192 rfl (by decide +kernel) rfl rfl (Nat.le_of_ble_eq_true rfl) (Nat.le_of_ble_eq_true rfl) ?_
              refine hw_mono H ?_
              rintro r ψ33 y33 ⟨hyx, hψx, z33, hr, H⟩
              subst hyx
              subst hψx
              subst hr
              refine ⟨hne0, ?_⟩
              show hw sc (d + 2) 256 165 (jm_st1 (jm_st1 (jm_st1 [(0, (2, 192))] 1 (0, z1)) 2 (0, z27)) 3 (0, z28)) [(0, z33)] ψ28 y33 Q
              obtain ⟨hz34, ht34, hf34⟩ := H
              refine hw_if (a0 := 0) (b := 1) (e := 172) (by decide +kernel) hz34 (fun q => ?_) (fun q => ?_)
              · have H := ht34 q
                exact hw_vret (a0 := 0) (e := 0) (by decide +kernel) H
              · have H := hf34 q
                refine hw_ald (b := 0) (e := 0) (by decide +kernel) (get_st1 (get_st1 (get_st1 rfl (by decide) (fun q => tg2 q.2)) (by decide) (fun q => absurd q.1 (by decide))) (by decide) (fun q => absurd q.1 (by decide))) (by decide) ?_
                refine hr_call (a0 := 22) (b := 223) (e := 1) (nl := 2) (As := []) (R := []) 192 rfl (by decide +kernel) rfl rfl (Nat.le_of_ble_eq_true rfl) (Nat.le_of_ble_eq_true rfl) ?_
                refine hw_mono H ?_
                rintro r ψ36 y36 ⟨hyx, hr, H⟩
                subst hyx
                subst hr
                refine ⟨hnen, ?_⟩
                show hw sc (d + 2) 256 172 (jm_st1 (jm_st1 (jm_st1 [(0, (2, 192))] 1 (0, z1)) 2 (0, z27)) 3 (0, z28)) [] ψ36 y36 Q
                exact hw_vret (a0 := 0) (e := 0) (by decide +kernel) H
          · have H := hf30 q
            refine hw_ald (b := 0) (e := 0) (by decide +kernel) (get_st1 (get_st1 (get_st1 rfl (by decide) (fun q => tg2 q.2)) (by decide) (fun q => absurd q.1 (by decide))) (by decide) (fun q => absurd q.1 (by decide))) (by decide) ?_
            refine hw_ld (b := 2) (e := 0) (by decide +kernel) (get_st1 get_st1e (by decide) (fun q => tg0 q.2)) ?_
            refine hw_ld (b := 3) (e := 0) (by decide +kernel) get_st1e ?_
            refine hr_call (a0 := 22) (b := 220) (e := 3) (nl := 3) (As := [(0, z27), (0, z28)]) (R := []) 192 rfl (by decide +kernel) rfl rfl (Nat.le_of_ble_eq_true rfl) (Nat.le_of_ble_eq_true rfl) ?_
            refine hw_mono H ?_
            rintro r ψ38 y38 ⟨hyx, hr, H⟩
            subst hyx
            subst hr
            refine ⟨hnen, ?_⟩
            show hw sc (d + 2) 256 156 (jm_st1 (jm_st1 (jm_st1 [(0, (2, 192))] 1 (0, z1)) 2 (0, z27)) 3 (0, z28)) [] ψ38 y38 Q
            refine hw_ld (b := 1) (e := 0) (by decide +kernel) (get_st1 (get_st1 get_st1e (by decide) (fun q => tg0 q.2)) (by decide) (fun q => absurd q.1 (by decide))) ?_
            refine hw_k (c := 2) (b := 0) (e := 1) (by decide +kernel) ?_
            obtain ⟨hz39, hy39, ht39, hf39⟩ := H
            refine hw_if2 (a0 := 0) (b := 1) (e := 172) (by decide +kernel) hz39 hy39 (fun q => ?_) (fun q => ?_)
            · have H := ht39 q
              exact hw_vret (a0 := 0) (e := 0) (by decide +kernel) H
            · have H := hf39 q
              refine hw_ald (b := 0) (e := 0) (by decide +kernel) (get_st1 (get_st1 (get_st1 rfl (by decide) (fun q => tg2 q.2)) (by decide) (fun q => absurd q.1 (by decide))) (by decide) (fun q => absurd q.1 (by decide))) (by decide) ?_
              refine hr_call (a0 := 22) (b := 222) (e := 1) (nl := 1) (As := []) (R := []) 192 rfl (by decide +kernel) rfl rfl (Nat.le_of_ble_eq_true rfl) (Nat.le_of_ble_eq_true rfl) ?_
              refine hw_mono H ?_
              rintro r ψ41 y41 ⟨hyx, hψx, z41, hr, H⟩
              subst hyx
              subst hψx
              subst hr
              refine ⟨hne0, ?_⟩
              show hw sc (d + 2) 256 165 (jm_st1 (jm_st1 (jm_st1 [(0, (2, 192))] 1 (0, z1)) 2 (0, z27)) 3 (0, z28)) [(0, z41)] ψ38 y41 Q
              obtain ⟨hz42, ht42, hf42⟩ := H
              refine hw_if (a0 := 0) (b := 1) (e := 172) (by decide +kernel) hz42 (fun q => ?_) (fun q => ?_)
              · have H := ht42 q
                exact hw_vret (a0 := 0) (e := 0) (by decide +kernel) H
              · have H := hf42 q
                refine hw_ald (b := 0) (e := 0) (by decide +kernel) (get_st1 (get_st1 (get_st1 rfl (by decide) (fun q => tg2 q.2)) (by decide) (fun q => absurd q.1 (by decide))) (by decide) (fun q => absurd q.1 (by decide))) (by decide) ?_
                refine hr_call (a0 := 22) (b := 223) (e := 1) (nl := 2) (As := []) (R := []) 192 rfl (by decide +kernel) rfl rfl (Nat.le_of_ble_eq_true rfl) (Nat.le_of_ble_eq_true rfl) ?_
                refine hw_mono H ?_
                rintro r ψ44 y44 ⟨hyx, hr, H⟩
                subst hyx
                subst hr
                refine ⟨hnen, ?_⟩
                show hw sc (d + 2) 256 172 (jm_st1 (jm_st1 (jm_st1 [(0, (2, 192))] 1 (0, z1)) 2 (0, z27)) 3 (0, z28)) [] ψ44 y44 Q
                exact hw_vret (a0 := 0) (e := 0) (by decide +kernel) H
  · have H := hf2 q
    refine hw_ald (b := 0) (e := 0) (by decide +kernel) (get_st1 rfl (by decide) (fun q => tg2 q.2)) (by decide) ?_
    refine hr_gr (w := 194) (b := 12) (e := 6) 192 rfl (by decide +kernel) ?_
    refine hw_k (c := 3) (b := 0) (e := 1) (by decide +kernel) ?_
    refine hr_al (b := 0) (a0 := 0) (e := 0) (n := 361) (w := ψ1 194 3) 194 rfl (by decide +kernel) (by decide) (by decide) (by decide) rfl ?_
    obtain ⟨hz46, ht46, hf46⟩ := H
    refine hw_if (a0 := 0) (b := 5) (e := 97) (by decide +kernel) hz46 (fun q => ?_) (fun q => ?_)
    · have H := ht46 q
      refine hw_ld (b := 1) (e := 0) (by decide +kernel) get_st1e ?_
      refine hw_k (c := 1) (b := 0) (e := 1) (by decide +kernel) ?_
      obtain ⟨hz47, hy47, ht47, hf47⟩ := H
      refine hw_if2 (a0 := 0) (b := 1) (e := 156) (by decide +kernel) hz47 hy47 (fun q => ?_) (fun q => ?_)
      · have H := ht47 q
        refine hw_ld (b := 1) (e := 0) (by decide +kernel) get_st1e ?_
        refine hw_k (c := 2) (b := 0) (e := 1) (by decide +kernel) ?_
        obtain ⟨hz48, hy48, ht48, hf48⟩ := H
        refine hw_if2 (a0 := 0) (b := 1) (e := 172) (by decide +kernel) hz48 hy48 (fun q => ?_) (fun q => ?_)
        · have H := ht48 q
          exact hw_vret (a0 := 0) (e := 0) (by decide +kernel) H
        · have H := hf48 q
          refine hw_ald (b := 0) (e := 0) (by decide +kernel) (get_st1 rfl (by decide) (fun q => tg2 q.2)) (by decide) ?_
          refine hr_call (a0 := 22) (b := 222) (e := 1) (nl := 1) (As := []) (R := []) 192 rfl (by decide +kernel) rfl rfl (Nat.le_of_ble_eq_true rfl) (Nat.le_of_ble_eq_true rfl) ?_
          refine hw_mono H ?_
          rintro r ψ50 y50 ⟨hyx, hψx, z50, hr, H⟩
          subst hyx
          subst hψx
          subst hr
          refine ⟨hne0, ?_⟩
          show hw sc (d + 2) 256 165 (jm_st1 [(0, (2, 192))] 1 (0, z1)) [(0, z50)] ψ1 y50 Q
          obtain ⟨hz51, ht51, hf51⟩ := H
          refine hw_if (a0 := 0) (b := 1) (e := 172) (by decide +kernel) hz51 (fun q => ?_) (fun q => ?_)
          · have H := ht51 q
            exact hw_vret (a0 := 0) (e := 0) (by decide +kernel) H
          · have H := hf51 q
            refine hw_ald (b := 0) (e := 0) (by decide +kernel) (get_st1 rfl (by decide) (fun q => tg2 q.2)) (by decide) ?_
            refine hr_call (a0 := 22) (b := 223) (e := 1) (nl := 2) (As := []) (R := []) 192 rfl (by decide +kernel) rfl rfl (Nat.le_of_ble_eq_true rfl) (Nat.le_of_ble_eq_true rfl) ?_
            refine hw_mono H ?_
            rintro r ψ53 y53 ⟨hyx, hr, H⟩
            subst hyx
            subst hr
            refine ⟨hnen, ?_⟩
            show hw sc (d + 2) 256 172 (jm_st1 [(0, (2, 192))] 1 (0, z1)) [] ψ53 y53 Q
            exact hw_vret (a0 := 0) (e := 0) (by decide +kernel) H
      · have H := hf47 q
        refine hw_ald (b := 0) (e := 0) (by decide +kernel) (get_st1 rfl (by decide) (fun q => tg2 q.2)) (by decide) ?_
        refine hr_gr (w := 194) (b := 12) (e := 6) 192 rfl (by decide +kernel) ?_
        refine hw_k (c := 3) (b := 0) (e := 1) (by decide +kernel) ?_
        refine hr_al (b := 0) (a0 := 0) (e := 0) (n := 361) (w := ψ1 194 3) 194 rfl (by decide +kernel) (by decide) (by decide) (by decide) rfl ?_
        obtain ⟨hz55, ht55, hf55⟩ := H
        refine hw_if (a0 := 0) (b := 5) (e := 156) (by decide +kernel) hz55 (fun q => ?_) (fun q => ?_)
        · have H := ht55 q
          refine hw_ld (b := 1) (e := 0) (by decide +kernel) get_st1e ?_
          refine hw_k (c := 2) (b := 0) (e := 1) (by decide +kernel) ?_
          obtain ⟨hz56, hy56, ht56, hf56⟩ := H
          refine hw_if2 (a0 := 0) (b := 1) (e := 172) (by decide +kernel) hz56 hy56 (fun q => ?_) (fun q => ?_)
          · have H := ht56 q
            exact hw_vret (a0 := 0) (e := 0) (by decide +kernel) H
          · have H := hf56 q
            refine hw_ald (b := 0) (e := 0) (by decide +kernel) (get_st1 rfl (by decide) (fun q => tg2 q.2)) (by decide) ?_
            refine hr_call (a0 := 22) (b := 222) (e := 1) (nl := 1) (As := []) (R := []) 192 rfl (by decide +kernel) rfl rfl (Nat.le_of_ble_eq_true rfl) (Nat.le_of_ble_eq_true rfl) ?_
            refine hw_mono H ?_
            rintro r ψ58 y58 ⟨hyx, hψx, z58, hr, H⟩
            subst hyx
            subst hψx
            subst hr
            refine ⟨hne0, ?_⟩
            show hw sc (d + 2) 256 165 (jm_st1 [(0, (2, 192))] 1 (0, z1)) [(0, z58)] ψ1 y58 Q
            obtain ⟨hz59, ht59, hf59⟩ := H
            refine hw_if (a0 := 0) (b := 1) (e := 172) (by decide +kernel) hz59 (fun q => ?_) (fun q => ?_)
            · have H := ht59 q
              exact hw_vret (a0 := 0) (e := 0) (by decide +kernel) H
            · have H := hf59 q
              refine hw_ald (b := 0) (e := 0) (by decide +kernel) (get_st1 rfl (by decide) (fun q => tg2 q.2)) (by decide) ?_
              refine hr_call (a0 := 22) (b := 223) (e := 1) (nl := 2) (As := []) (R := []) 192 rfl (by decide +kernel) rfl rfl (Nat.le_of_ble_eq_true rfl) (Nat.le_of_ble_eq_true rfl) ?_
              refine hw_mono H ?_
              rintro r ψ61 y61 ⟨hyx, hr, H⟩
              subst hyx
              subst hr
              refine ⟨hnen, ?_⟩
              show hw sc (d + 2) 256 172 (jm_st1 [(0, (2, 192))] 1 (0, z1)) [] ψ61 y61 Q
              exact hw_vret (a0 := 0) (e := 0) (by decide +kernel) H
        · have H := hf55 q
          refine hw_ald (b := 0) (e := 0) (by decide +kernel) (get_st1 rfl (by decide) (fun q => tg2 q.2)) (by decide) ?_
          refine hr_gr (w := 194) (b := 12) (e := 6) 192 rfl (by decide +kernel) ?_
          refine hw_k (c := 2) (b := 0) (e := 1) (by decide +kernel) ?_
          refine hr_al (b := 0) (a0 := 0) (e := 0) (n := 361) (w := ψ1 194 2) 194 rfl (by decide +kernel) (by decide) (by decide) (by decide) rfl ?_
          obtain ⟨hz63, ht63, hf63⟩ := H
          refine hw_if (a0 := 0) (b := 5) (e := 156) (by decide +kernel) hz63 (fun q => ?_) (fun q => ?_)
          · have H := ht63 q
            refine hw_ld (b := 1) (e := 0) (by decide +kernel) get_st1e ?_
            refine hw_k (c := 2) (b := 0) (e := 1) (by decide +kernel) ?_
            obtain ⟨hz64, hy64, ht64, hf64⟩ := H
            refine hw_if2 (a0 := 0) (b := 1) (e := 172) (by decide +kernel) hz64 hy64 (fun q => ?_) (fun q => ?_)
            · have H := ht64 q
              exact hw_vret (a0 := 0) (e := 0) (by decide +kernel) H
            · have H := hf64 q
              refine hw_ald (b := 0) (e := 0) (by decide +kernel) (get_st1 rfl (by decide) (fun q => tg2 q.2)) (by decide) ?_
              refine hr_call (a0 := 22) (b := 222) (e := 1) (nl := 1) (As := []) (R := []) 192 rfl (by decide +kernel) rfl rfl (Nat.le_of_ble_eq_true rfl) (Nat.le_of_ble_eq_true rfl) ?_
              refine hw_mono H ?_
              rintro r ψ66 y66 ⟨hyx, hψx, z66, hr, H⟩
              subst hyx
              subst hψx
              subst hr
              refine ⟨hne0, ?_⟩
              show hw sc (d + 2) 256 165 (jm_st1 [(0, (2, 192))] 1 (0, z1)) [(0, z66)] ψ1 y66 Q
              obtain ⟨hz67, ht67, hf67⟩ := H
              refine hw_if (a0 := 0) (b := 1) (e := 172) (by decide +kernel) hz67 (fun q => ?_) (fun q => ?_)
              · have H := ht67 q
                exact hw_vret (a0 := 0) (e := 0) (by decide +kernel) H
              · have H := hf67 q
                refine hw_ald (b := 0) (e := 0) (by decide +kernel) (get_st1 rfl (by decide) (fun q => tg2 q.2)) (by decide) ?_
                refine hr_call (a0 := 22) (b := 223) (e := 1) (nl := 2) (As := []) (R := []) 192 rfl (by decide +kernel) rfl rfl (Nat.le_of_ble_eq_true rfl) (Nat.le_of_ble_eq_true rfl) ?_
                refine hw_mono H ?_
                rintro r ψ69 y69 ⟨hyx, hr, H⟩
                subst hyx
                subst hr
                refine ⟨hnen, ?_⟩
                show hw sc (d + 2) 256 172 (jm_st1 [(0, (2, 192))] 1 (0, z1)) [] ψ69 y69 Q
                exact hw_vret (a0 := 0) (e := 0) (by decide +kernel) H
          · have H := hf63 q
            refine hw_ald (b := 0) (e := 0) (by decide +kernel) (get_st1 rfl (by decide) (fun q => tg2 q.2)) (by decide) ?_
            refine hw_ald (b := 0) (e := 0) (by decide +kernel) (get_st1 rfl (by decide) (fun q => tg2 q.2)) (by decide) ?_
            refine hr_gr (w := 194) (b := 12) (e := 6) 192 rfl (by decide +kernel) ?_
            refine hw_k (c := 3) (b := 0) (e := 1) (by decide +kernel) ?_
            refine hr_al (b := 0) (a0 := 0) (e := 0) (n := 361) (w := ψ1 194 3) 194 rfl (by decide +kernel) (by decide) (by decide) (by decide) rfl ?_
            refine hr_call (a0 := 22) (b := 257) (e := 2) (nl := 2) (As := [(0, ψ1 194 3)]) (R := []) 192 rfl (by decide +kernel) rfl rfl (Nat.le_of_ble_eq_true rfl) (Nat.le_of_ble_eq_true rfl) ?_
            refine hw_mono H ?_
            rintro r ψ71 y71 ⟨hyx, z71, hr, H⟩
            subst hyx
            subst hr
            refine ⟨hne0, ?_⟩
            show hw sc (d + 2) 256 130 (jm_st1 [(0, (2, 192))] 1 (0, z1)) [(0, z71)] ψ71 y71 Q
            refine hw_st (L' := (jm_st1 (jm_st1 [(0, (2, 192))] 1 (0, z1)) 2 (0, z71))) (b := 2) (e := 0) (by decide +kernel) rfl ?_
            refine hw_ald (b := 0) (e := 0) (by decide +kernel) (get_st1 (get_st1 rfl (by decide) (fun q => tg2 q.2)) (by decide) (fun q => absurd q.1 (by decide))) (by decide) ?_
            refine hw_ald (b := 0) (e := 0) (by decide +kernel) (get_st1 (get_st1 rfl (by decide) (fun q => tg2 q.2)) (by decide) (fun q => absurd q.1 (by decide))) (by decide) ?_
            refine hr_gr (w := 194) (b := 12) (e := 6) 192 rfl (by decide +kernel) ?_
            refine hw_k (c := 2) (b := 0) (e := 1) (by decide +kernel) ?_
            refine hr_al (b := 0) (a0 := 0) (e := 0) (n := 361) (w := ψ71 194 2) 194 rfl (by decide +kernel) (by decide) (by decide) (by decide) rfl ?_
            refine hr_call (a0 := 22) (b := 257) (e := 2) (nl := 2) (As := [(0, ψ71 194 2)]) (R := []) 192 rfl (by decide +kernel) rfl rfl (Nat.le_of_ble_eq_true rfl) (Nat.le_of_ble_eq_true rfl) ?_
            refine hw_mono H ?_
            rintro r ψ72 y72 ⟨hyx, z72, hr, H⟩
            subst hyx
            subst hr
            refine ⟨hne0, ?_⟩
            show hw sc (d + 2) 256 141 (jm_st1 (jm_st1 [(0, (2, 192))] 1 (0, z1)) 2 (0, z71)) [(0, z72)] ψ72 y72 Q
            refine hw_st (L' := (jm_st1 (jm_st1 (jm_st1 [(0, (2, 192))] 1 (0, z1)) 2 (0, z71)) 3 (0, z72))) (b := 3) (e := 0) (by decide +kernel) rfl ?_
            refine hw_ald (b := 0) (e := 0) (by decide +kernel) (get_st1 (get_st1 (get_st1 rfl (by decide) (fun q => tg2 q.2)) (by decide) (fun q => absurd q.1 (by decide))) (by decide) (fun q => absurd q.1 (by decide))) (by decide) ?_
            refine hw_ld (b := 2) (e := 0) (by decide +kernel) (get_st1 get_st1e (by decide) (fun q => tg0 q.2)) ?_
            refine hr_call (a0 := 22) (b := 219) (e := 2) (nl := 2) (As := [(0, z71)]) (R := []) 192 rfl (by decide +kernel) rfl rfl (Nat.le_of_ble_eq_true rfl) (Nat.le_of_ble_eq_true rfl) ?_
            refine hw_mono H ?_
            rintro r ψ73 y73 ⟨hyx, hψx, z73, hr, H⟩
            subst hyx
            subst hψx
            subst hr
            refine ⟨hne0, ?_⟩
            show hw sc (d + 2) 256 147 (jm_st1 (jm_st1 (jm_st1 [(0, (2, 192))] 1 (0, z1)) 2 (0, z71)) 3 (0, z72)) [(0, z73)] ψ72 y73 Q
            obtain ⟨hz74, ht74, hf74⟩ := H
            refine hw_if (a0 := 0) (b := 1) (e := 156) (by decide +kernel) hz74 (fun q => ?_) (fun q => ?_)
            · have H := ht74 q
              refine hw_ld (b := 1) (e := 0) (by decide +kernel) (get_st1 (get_st1 get_st1e (by decide) (fun q => tg0 q.2)) (by decide) (fun q => absurd q.1 (by decide))) ?_
              refine hw_k (c := 2) (b := 0) (e := 1) (by decide +kernel) ?_
              obtain ⟨hz75, hy75, ht75, hf75⟩ := H
              refine hw_if2 (a0 := 0) (b := 1) (e := 172) (by decide +kernel) hz75 hy75 (fun q => ?_) (fun q => ?_)
              · have H := ht75 q
                exact hw_vret (a0 := 0) (e := 0) (by decide +kernel) H
              · have H := hf75 q
                refine hw_ald (b := 0) (e := 0) (by decide +kernel) (get_st1 (get_st1 (get_st1 rfl (by decide) (fun q => tg2 q.2)) (by decide) (fun q => absurd q.1 (by decide))) (by decide) (fun q => absurd q.1 (by decide))) (by decide) ?_
                refine hr_call (a0 := 22) (b := 222) (e := 1) (nl := 1) (As := []) (R := []) 192 rfl (by decide +kernel) rfl rfl (Nat.le_of_ble_eq_true rfl) (Nat.le_of_ble_eq_true rfl) ?_
                refine hw_mono H ?_
                rintro r ψ77 y77 ⟨hyx, hψx, z77, hr, H⟩
                subst hyx
                subst hψx
                subst hr
                refine ⟨hne0, ?_⟩
                show hw sc (d + 2) 256 165 (jm_st1 (jm_st1 (jm_st1 [(0, (2, 192))] 1 (0, z1)) 2 (0, z71)) 3 (0, z72)) [(0, z77)] ψ72 y77 Q
                obtain ⟨hz78, ht78, hf78⟩ := H
                refine hw_if (a0 := 0) (b := 1) (e := 172) (by decide +kernel) hz78 (fun q => ?_) (fun q => ?_)
                · have H := ht78 q
                  exact hw_vret (a0 := 0) (e := 0) (by decide +kernel) H
                · have H := hf78 q
                  refine hw_ald (b := 0) (e := 0) (by decide +kernel) (get_st1 (get_st1 (get_st1 rfl (by decide) (fun q => tg2 q.2)) (by decide) (fun q => absurd q.1 (by decide))) (by decide) (fun q => absurd q.1 (by decide))) (by decide) ?_
                  refine hr_call (a0 := 22) (b := 223) (e := 1) (nl := 2) (As := []) (R := []) 192 rfl (by decide +kernel) rfl rfl (Nat.le_of_ble_eq_true rfl) (Nat.le_of_ble_eq_true rfl) ?_
                  refine hw_mono H ?_
                  rintro r ψ80 y80 ⟨hyx, hr, H⟩
                  subst hyx
                  subst hr
                  refine ⟨hnen, ?_⟩
                  show hw sc (d + 2) 256 172 (jm_st1 (jm_st1 (jm_st1 [(0, (2, 192))] 1 (0, z1)) 2 (0, z71)) 3 (0, z72)) [] ψ80 y80 Q
                  exact hw_vret (a0 := 0) (e := 0) (by decide +kernel) H
            · have H := hf74 q
              refine hw_ald (b := 0) (e := 0) (by decide +kernel) (get_st1 (get_st1 (get_st1 rfl (by decide) (fun q => tg2 q.2)) (by decide) (fun q => absurd q.1 (by decide))) (by decide) (fun q => absurd q.1 (by decide))) (by decide) ?_
              refine hw_ld (b := 2) (e := 0) (by decide +kernel) (get_st1 get_st1e (by decide) (fun q => tg0 q.2)) ?_
              refine hw_ld (b := 3) (e := 0) (by decide +kernel) get_st1e ?_
              refine hr_call (a0 := 22) (b := 220) (e := 3) (nl := 3) (As := [(0, z71), (0, z72)]) (R := []) 192 rfl (by decide +kernel) rfl rfl (Nat.le_of_ble_eq_true rfl) (Nat.le_of_ble_eq_true rfl) ?_
              refine hw_mono H ?_
              rintro r ψ82 y82 ⟨hyx, hr, H⟩
              subst hyx
              subst hr
              refine ⟨hnen, ?_⟩
              show hw sc (d + 2) 256 156 (jm_st1 (jm_st1 (jm_st1 [(0, (2, 192))] 1 (0, z1)) 2 (0, z71)) 3 (0, z72)) [] ψ82 y82 Q
              refine hw_ld (b := 1) (e := 0) (by decide +kernel) (get_st1 (get_st1 get_st1e (by decide) (fun q => tg0 q.2)) (by decide) (fun q => absurd q.1 (by decide))) ?_
              refine hw_k (c := 2) (b := 0) (e := 1) (by decide +kernel) ?_
              obtain ⟨hz83, hy83, ht83, hf83⟩ := H
              refine hw_if2 (a0 := 0) (b := 1) (e := 172) (by decide +kernel) hz83 hy83 (fun q => ?_) (fun q => ?_)
              · have H := ht83 q
                exact hw_vret (a0 := 0) (e := 0) (by decide +kernel) H
              · have H := hf83 q
                refine hw_ald (b := 0) (e := 0) (by decide +kernel) (get_st1 (get_st1 (get_st1 rfl (by decide) (fun q => tg2 q.2)) (by decide) (fun q => absurd q.1 (by decide))) (by decide) (fun q => absurd q.1 (by decide))) (by decide) ?_
                refine hr_call (a0 := 22) (b := 222) (e := 1) (nl := 1) (As := []) (R := []) 192 rfl (by decide +kernel) rfl rfl (Nat.le_of_ble_eq_true rfl) (Nat.le_of_ble_eq_true rfl) ?_
                refine hw_mono H ?_
                rintro r ψ85 y85 ⟨hyx, hψx, z85, hr, H⟩
                subst hyx
                subst hψx
                subst hr
                refine ⟨hne0, ?_⟩
                show hw sc (d + 2) 256 165 (jm_st1 (jm_st1 (jm_st1 [(0, (2, 192))] 1 (0, z1)) 2 (0, z71)) 3 (0, z72)) [(0, z85)] ψ82 y85 Q
                obtain ⟨hz86, ht86, hf86⟩ := H
                refine hw_if (a0 := 0) (b := 1) (e := 172) (by decide +kernel) hz86 (fun q => ?_) (fun q => ?_)
                · have H := ht86 q
                  exact hw_vret (a0 := 0) (e := 0) (by decide +kernel) H
                · have H := hf86 q
                  refine hw_ald (b := 0) (e := 0) (by decide +kernel) (get_st1 (get_st1 (get_st1 rfl (by decide) (fun q => tg2 q.2)) (by decide) (fun q => absurd q.1 (by decide))) (by decide) (fun q => absurd q.1 (by decide))) (by decide) ?_
                  refine hr_call (a0 := 22) (b := 223) (e := 1) (nl := 2) (As := []) (R := []) 192 rfl (by decide +kernel) rfl rfl (Nat.le_of_ble_eq_true rfl) (Nat.le_of_ble_eq_true rfl) ?_
                  refine hw_mono H ?_
                  rintro r ψ88 y88 ⟨hyx, hr, H⟩
                  subst hyx
                  subst hr
                  refine ⟨hnen, ?_⟩
                  show hw sc (d + 2) 256 172 (jm_st1 (jm_st1 (jm_st1 [(0, (2, 192))] 1 (0, z1)) 2 (0, z71)) 3 (0, z72)) [] ψ88 y88 Q
                  exact hw_vret (a0 := 0) (e := 0) (by decide +kernel) H
    · have H := hf46 q
      refine hw_ald (b := 0) (e := 0) (by decide +kernel) (get_st1 rfl (by decide) (fun q => tg2 q.2)) (by decide) ?_
      refine hr_gr (w := 194) (b := 12) (e := 6) 192 rfl (by decide +kernel) ?_
      refine hw_k (c := 1) (b := 0) (e := 1) (by decide +kernel) ?_
      refine hr_al (b := 0) (a0 := 0) (e := 0) (n := 361) (w := ψ1 194 1) 194 rfl (by decide +kernel) (by decide) (by decide) (by decide) rfl ?_
      obtain ⟨hz90, ht90, hf90⟩ := H
      refine hw_if (a0 := 0) (b := 5) (e := 97) (by decide +kernel) hz90 (fun q => ?_) (fun q => ?_)
      · have H := ht90 q
        refine hw_ld (b := 1) (e := 0) (by decide +kernel) get_st1e ?_
        refine hw_k (c := 1) (b := 0) (e := 1) (by decide +kernel) ?_
        obtain ⟨hz91, hy91, ht91, hf91⟩ := H
        refine hw_if2 (a0 := 0) (b := 1) (e := 156) (by decide +kernel) hz91 hy91 (fun q => ?_) (fun q => ?_)
        · have H := ht91 q
          refine hw_ld (b := 1) (e := 0) (by decide +kernel) get_st1e ?_
          refine hw_k (c := 2) (b := 0) (e := 1) (by decide +kernel) ?_
          obtain ⟨hz92, hy92, ht92, hf92⟩ := H
          refine hw_if2 (a0 := 0) (b := 1) (e := 172) (by decide +kernel) hz92 hy92 (fun q => ?_) (fun q => ?_)
          · have H := ht92 q
            exact hw_vret (a0 := 0) (e := 0) (by decide +kernel) H
          · have H := hf92 q
            refine hw_ald (b := 0) (e := 0) (by decide +kernel) (get_st1 rfl (by decide) (fun q => tg2 q.2)) (by decide) ?_
            refine hr_call (a0 := 22) (b := 222) (e := 1) (nl := 1) (As := []) (R := []) 192 rfl (by decide +kernel) rfl rfl (Nat.le_of_ble_eq_true rfl) (Nat.le_of_ble_eq_true rfl) ?_
            refine hw_mono H ?_
            rintro r ψ94 y94 ⟨hyx, hψx, z94, hr, H⟩
            subst hyx
            subst hψx
            subst hr
            refine ⟨hne0, ?_⟩
            show hw sc (d + 2) 256 165 (jm_st1 [(0, (2, 192))] 1 (0, z1)) [(0, z94)] ψ1 y94 Q
            obtain ⟨hz95, ht95, hf95⟩ := H
            refine hw_if (a0 := 0) (b := 1) (e := 172) (by decide +kernel) hz95 (fun q => ?_) (fun q => ?_)
            · have H := ht95 q
              exact hw_vret (a0 := 0) (e := 0) (by decide +kernel) H
            · have H := hf95 q
              refine hw_ald (b := 0) (e := 0) (by decide +kernel) (get_st1 rfl (by decide) (fun q => tg2 q.2)) (by decide) ?_
              refine hr_call (a0 := 22) (b := 223) (e := 1) (nl := 2) (As := []) (R := []) 192 rfl (by decide +kernel) rfl rfl (Nat.le_of_ble_eq_true rfl) (Nat.le_of_ble_eq_true rfl) ?_
              refine hw_mono H ?_
              rintro r ψ97 y97 ⟨hyx, hr, H⟩
              subst hyx
              subst hr
              refine ⟨hnen, ?_⟩
              show hw sc (d + 2) 256 172 (jm_st1 [(0, (2, 192))] 1 (0, z1)) [] ψ97 y97 Q
              exact hw_vret (a0 := 0) (e := 0) (by decide +kernel) H
        · have H := hf91 q
          refine hw_ald (b := 0) (e := 0) (by decide +kernel) (get_st1 rfl (by decide) (fun q => tg2 q.2)) (by decide) ?_
          refine hr_gr (w := 194) (b := 12) (e := 6) 192 rfl (by decide +kernel) ?_
          refine hw_k (c := 3) (b := 0) (e := 1) (by decide +kernel) ?_
          refine hr_al (b := 0) (a0 := 0) (e := 0) (n := 361) (w := ψ1 194 3) 194 rfl (by decide +kernel) (by decide) (by decide) (by decide) rfl ?_
          obtain ⟨hz99, ht99, hf99⟩ := H
          refine hw_if (a0 := 0) (b := 5) (e := 156) (by decide +kernel) hz99 (fun q => ?_) (fun q => ?_)
          · have H := ht99 q
            refine hw_ld (b := 1) (e := 0) (by decide +kernel) get_st1e ?_
            refine hw_k (c := 2) (b := 0) (e := 1) (by decide +kernel) ?_
            obtain ⟨hz100, hy100, ht100, hf100⟩ := H
            refine hw_if2 (a0 := 0) (b := 1) (e := 172) (by decide +kernel) hz100 hy100 (fun q => ?_) (fun q => ?_)
            · have H := ht100 q
              exact hw_vret (a0 := 0) (e := 0) (by decide +kernel) H
            · have H := hf100 q
              refine hw_ald (b := 0) (e := 0) (by decide +kernel) (get_st1 rfl (by decide) (fun q => tg2 q.2)) (by decide) ?_
              refine hr_call (a0 := 22) (b := 222) (e := 1) (nl := 1) (As := []) (R := []) 192 rfl (by decide +kernel) rfl rfl (Nat.le_of_ble_eq_true rfl) (Nat.le_of_ble_eq_true rfl) ?_
              refine hw_mono H ?_
              rintro r ψ102 y102 ⟨hyx, hψx, z102, hr, H⟩
              subst hyx
              subst hψx
              subst hr
              refine ⟨hne0, ?_⟩
              show hw sc (d + 2) 256 165 (jm_st1 [(0, (2, 192))] 1 (0, z1)) [(0, z102)] ψ1 y102 Q
              obtain ⟨hz103, ht103, hf103⟩ := H
              refine hw_if (a0 := 0) (b := 1) (e := 172) (by decide +kernel) hz103 (fun q => ?_) (fun q => ?_)
              · have H := ht103 q
                exact hw_vret (a0 := 0) (e := 0) (by decide +kernel) H
              · have H := hf103 q
                refine hw_ald (b := 0) (e := 0) (by decide +kernel) (get_st1 rfl (by decide) (fun q => tg2 q.2)) (by decide) ?_
                refine hr_call (a0 := 22) (b := 223) (e := 1) (nl := 2) (As := []) (R := []) 192 rfl (by decide +kernel) rfl rfl (Nat.le_of_ble_eq_true rfl) (Nat.le_of_ble_eq_true rfl) ?_
                refine hw_mono H ?_
                rintro r ψ105 y105 ⟨hyx, hr, H⟩
                subst hyx
                subst hr
                refine ⟨hnen, ?_⟩
                show hw sc (d + 2) 256 172 (jm_st1 [(0, (2, 192))] 1 (0, z1)) [] ψ105 y105 Q
                exact hw_vret (a0 := 0) (e := 0) (by decide +kernel) H
          · have H := hf99 q
            refine hw_ald (b := 0) (e := 0) (by decide +kernel) (get_st1 rfl (by decide) (fun q => tg2 q.2)) (by decide) ?_
            refine hr_gr (w := 194) (b := 12) (e := 6) 192 rfl (by decide +kernel) ?_
            refine hw_k (c := 2) (b := 0) (e := 1) (by decide +kernel) ?_
            refine hr_al (b := 0) (a0 := 0) (e := 0) (n := 361) (w := ψ1 194 2) 194 rfl (by decide +kernel) (by decide) (by decide) (by decide) rfl ?_
            obtain ⟨hz107, ht107, hf107⟩ := H
            refine hw_if (a0 := 0) (b := 5) (e := 156) (by decide +kernel) hz107 (fun q => ?_) (fun q => ?_)
            · have H := ht107 q
              refine hw_ld (b := 1) (e := 0) (by decide +kernel) get_st1e ?_
              refine hw_k (c := 2) (b := 0) (e := 1) (by decide +kernel) ?_
              obtain ⟨hz108, hy108, ht108, hf108⟩ := H
              refine hw_if2 (a0 := 0) (b := 1) (e := 172) (by decide +kernel) hz108 hy108 (fun q => ?_) (fun q => ?_)
              · have H := ht108 q
                exact hw_vret (a0 := 0) (e := 0) (by decide +kernel) H
              · have H := hf108 q
                refine hw_ald (b := 0) (e := 0) (by decide +kernel) (get_st1 rfl (by decide) (fun q => tg2 q.2)) (by decide) ?_
                refine hr_call (a0 := 22) (b := 222) (e := 1) (nl := 1) (As := []) (R := []) 192 rfl (by decide +kernel) rfl rfl (Nat.le_of_ble_eq_true rfl) (Nat.le_of_ble_eq_true rfl) ?_
                refine hw_mono H ?_
                rintro r ψ110 y110 ⟨hyx, hψx, z110, hr, H⟩
                subst hyx
                subst hψx
                subst hr
                refine ⟨hne0, ?_⟩
                show hw sc (d + 2) 256 165 (jm_st1 [(0, (2, 192))] 1 (0, z1)) [(0, z110)] ψ1 y110 Q
                obtain ⟨hz111, ht111, hf111⟩ := H
                refine hw_if (a0 := 0) (b := 1) (e := 172) (by decide +kernel) hz111 (fun q => ?_) (fun q => ?_)
                · have H := ht111 q
                  exact hw_vret (a0 := 0) (e := 0) (by decide +kernel) H
                · have H := hf111 q
                  refine hw_ald (b := 0) (e := 0) (by decide +kernel) (get_st1 rfl (by decide) (fun q => tg2 q.2)) (by decide) ?_
                  refine hr_call (a0 := 22) (b := 223) (e := 1) (nl := 2) (As := []) (R := []) 192 rfl (by decide +kernel) rfl rfl (Nat.le_of_ble_eq_true rfl) (Nat.le_of_ble_eq_true rfl) ?_
                  refine hw_mono H ?_
                  rintro r ψ113 y113 ⟨hyx, hr, H⟩
                  subst hyx
                  subst hr
                  refine ⟨hnen, ?_⟩
                  show hw sc (d + 2) 256 172 (jm_st1 [(0, (2, 192))] 1 (0, z1)) [] ψ113 y113 Q
                  exact hw_vret (a0 := 0) (e := 0) (by decide +kernel) H
            · have H := hf107 q
              refine hw_ald (b := 0) (e := 0) (by decide +kernel) (get_st1 rfl (by decide) (fun q => tg2 q.2)) (by decide) ?_
              refine hw_ald (b := 0) (e := 0) (by decide +kernel) (get_st1 rfl (by decide) (fun q => tg2 q.2)) (by decide) ?_
              refine hr_gr (w := 194) (b := 12) (e := 6) 192 rfl (by decide +kernel) ?_
              refine hw_k (c := 3) (b := 0) (e := 1) (by decide +kernel) ?_
              refine hr_al (b := 0) (a0 := 0) (e := 0) (n := 361) (w := ψ1 194 3) 194 rfl (by decide +kernel) (by decide) (by decide) (by decide) rfl ?_
              refine hr_call (a0 := 22) (b := 257) (e := 2) (nl := 2) (As := [(0, ψ1 194 3)]) (R := []) 192 rfl (by decide +kernel) rfl rfl (Nat.le_of_ble_eq_true rfl) (Nat.le_of_ble_eq_true rfl) ?_
              refine hw_mono H ?_
              rintro r ψ115 y115 ⟨hyx, z115, hr, H⟩
              subst hyx
              subst hr
              refine ⟨hne0, ?_⟩
              show hw sc (d + 2) 256 130 (jm_st1 [(0, (2, 192))] 1 (0, z1)) [(0, z115)] ψ115 y115 Q
              refine hw_st (L' := (jm_st1 (jm_st1 [(0, (2, 192))] 1 (0, z1)) 2 (0, z115))) (b := 2) (e := 0) (by decide +kernel) rfl ?_
              refine hw_ald (b := 0) (e := 0) (by decide +kernel) (get_st1 (get_st1 rfl (by decide) (fun q => tg2 q.2)) (by decide) (fun q => absurd q.1 (by decide))) (by decide) ?_
              refine hw_ald (b := 0) (e := 0) (by decide +kernel) (get_st1 (get_st1 rfl (by decide) (fun q => tg2 q.2)) (by decide) (fun q => absurd q.1 (by decide))) (by decide) ?_
              refine hr_gr (w := 194) (b := 12) (e := 6) 192 rfl (by decide +kernel) ?_
              refine hw_k (c := 2) (b := 0) (e := 1) (by decide +kernel) ?_
              refine hr_al (b := 0) (a0 := 0) (e := 0) (n := 361) (w := ψ115 194 2) 194 rfl (by decide +kernel) (by decide) (by decide) (by decide) rfl ?_
              refine hr_call (a0 := 22) (b := 257) (e := 2) (nl := 2) (As := [(0, ψ115 194 2)]) (R := []) 192 rfl (by decide +kernel) rfl rfl (Nat.le_of_ble_eq_true rfl) (Nat.le_of_ble_eq_true rfl) ?_
              refine hw_mono H ?_
              rintro r ψ116 y116 ⟨hyx, z116, hr, H⟩
              subst hyx
              subst hr
              refine ⟨hne0, ?_⟩
              show hw sc (d + 2) 256 141 (jm_st1 (jm_st1 [(0, (2, 192))] 1 (0, z1)) 2 (0, z115)) [(0, z116)] ψ116 y116 Q
              refine hw_st (L' := (jm_st1 (jm_st1 (jm_st1 [(0, (2, 192))] 1 (0, z1)) 2 (0, z115)) 3 (0, z116))) (b := 3) (e := 0) (by decide +kernel) rfl ?_
              refine hw_ald (b := 0) (e := 0) (by decide +kernel) (get_st1 (get_st1 (get_st1 rfl (by decide) (fun q => tg2 q.2)) (by decide) (fun q => absurd q.1 (by decide))) (by decide) (fun q => absurd q.1 (by decide))) (by decide) ?_
              refine hw_ld (b := 2) (e := 0) (by decide +kernel) (get_st1 get_st1e (by decide) (fun q => tg0 q.2)) ?_
              refine hr_call (a0 := 22) (b := 219) (e := 2) (nl := 2) (As := [(0, z115)]) (R := []) 192 rfl (by decide +kernel) rfl rfl (Nat.le_of_ble_eq_true rfl) (Nat.le_of_ble_eq_true rfl) ?_
              refine hw_mono H ?_
              rintro r ψ117 y117 ⟨hyx, hψx, z117, hr, H⟩
              subst hyx
              subst hψx
              subst hr
              refine ⟨hne0, ?_⟩
              show hw sc (d + 2) 256 147 (jm_st1 (jm_st1 (jm_st1 [(0, (2, 192))] 1 (0, z1)) 2 (0, z115)) 3 (0, z116)) [(0, z117)] ψ116 y117 Q
              obtain ⟨hz118, ht118, hf118⟩ := H
              refine hw_if (a0 := 0) (b := 1) (e := 156) (by decide +kernel) hz118 (fun q => ?_) (fun q => ?_)
              · have H := ht118 q
                refine hw_ld (b := 1) (e := 0) (by decide +kernel) (get_st1 (get_st1 get_st1e (by decide) (fun q => tg0 q.2)) (by decide) (fun q => absurd q.1 (by decide))) ?_
                refine hw_k (c := 2) (b := 0) (e := 1) (by decide +kernel) ?_
                obtain ⟨hz119, hy119, ht119, hf119⟩ := H
                refine hw_if2 (a0 := 0) (b := 1) (e := 172) (by decide +kernel) hz119 hy119 (fun q => ?_) (fun q => ?_)
                · have H := ht119 q
                  exact hw_vret (a0 := 0) (e := 0) (by decide +kernel) H
                · have H := hf119 q
                  refine hw_ald (b := 0) (e := 0) (by decide +kernel) (get_st1 (get_st1 (get_st1 rfl (by decide) (fun q => tg2 q.2)) (by decide) (fun q => absurd q.1 (by decide))) (by decide) (fun q => absurd q.1 (by decide))) (by decide) ?_
                  refine hr_call (a0 := 22) (b := 222) (e := 1) (nl := 1) (As := []) (R := []) 192 rfl (by decide +kernel) rfl rfl (Nat.le_of_ble_eq_true rfl) (Nat.le_of_ble_eq_true rfl) ?_
                  refine hw_mono H ?_
                  rintro r ψ121 y121 ⟨hyx, hψx, z121, hr, H⟩
                  subst hyx
                  subst hψx
                  subst hr
                  refine ⟨hne0, ?_⟩
                  show hw sc (d + 2) 256 165 (jm_st1 (jm_st1 (jm_st1 [(0, (2, 192))] 1 (0, z1)) 2 (0, z115)) 3 (0, z116)) [(0, z121)] ψ116 y121 Q
                  obtain ⟨hz122, ht122, hf122⟩ := H
                  refine hw_if (a0 := 0) (b := 1) (e := 172) (by decide +kernel) hz122 (fun q => ?_) (fun q => ?_)
                  · have H := ht122 q
                    exact hw_vret (a0 := 0) (e := 0) (by decide +kernel) H
                  · have H := hf122 q
                    refine hw_ald (b := 0) (e := 0) (by decide +kernel) (get_st1 (get_st1 (get_st1 rfl (by decide) (fun q => tg2 q.2)) (by decide) (fun q => absurd q.1 (by decide))) (by decide) (fun q => absurd q.1 (by decide))) (by decide) ?_
                    refine hr_call (a0 := 22) (b := 223) (e := 1) (nl := 2) (As := []) (R := []) 192 rfl (by decide +kernel) rfl rfl (Nat.le_of_ble_eq_true rfl) (Nat.le_of_ble_eq_true rfl) ?_
                    refine hw_mono H ?_
                    rintro r ψ124 y124 ⟨hyx, hr, H⟩
                    subst hyx
                    subst hr
                    refine ⟨hnen, ?_⟩
                    show hw sc (d + 2) 256 172 (jm_st1 (jm_st1 (jm_st1 [(0, (2, 192))] 1 (0, z1)) 2 (0, z115)) 3 (0, z116)) [] ψ124 y124 Q
                    exact hw_vret (a0 := 0) (e := 0) (by decide +kernel) H
              · have H := hf118 q
                refine hw_ald (b := 0) (e := 0) (by decide +kernel) (get_st1 (get_st1 (get_st1 rfl (by decide) (fun q => tg2 q.2)) (by decide) (fun q => absurd q.1 (by decide))) (by decide) (fun q => absurd q.1 (by decide))) (by decide) ?_
                refine hw_ld (b := 2) (e := 0) (by decide +kernel) (get_st1 get_st1e (by decide) (fun q => tg0 q.2)) ?_
                refine hw_ld (b := 3) (e := 0) (by decide +kernel) get_st1e ?_
                refine hr_call (a0 := 22) (b := 220) (e := 3) (nl := 3) (As := [(0, z115), (0, z116)]) (R := []) 192 rfl (by decide +kernel) rfl rfl (Nat.le_of_ble_eq_true rfl) (Nat.le_of_ble_eq_true rfl) ?_
                refine hw_mono H ?_
                rintro r ψ126 y126 ⟨hyx, hr, H⟩
                subst hyx
                subst hr
                refine ⟨hnen, ?_⟩
                show hw sc (d + 2) 256 156 (jm_st1 (jm_st1 (jm_st1 [(0, (2, 192))] 1 (0, z1)) 2 (0, z115)) 3 (0, z116)) [] ψ126 y126 Q
                refine hw_ld (b := 1) (e := 0) (by decide +kernel) (get_st1 (get_st1 get_st1e (by decide) (fun q => tg0 q.2)) (by decide) (fun q => absurd q.1 (by decide))) ?_
                refine hw_k (c := 2) (b := 0) (e := 1) (by decide +kernel) ?_
                obtain ⟨hz127, hy127, ht127, hf127⟩ := H
                refine hw_if2 (a0 := 0) (b := 1) (e := 172) (by decide +kernel) hz127 hy127 (fun q => ?_) (fun q => ?_)
                · have H := ht127 q
                  exact hw_vret (a0 := 0) (e := 0) (by decide +kernel) H
                · have H := hf127 q
                  refine hw_ald (b := 0) (e := 0) (by decide +kernel) (get_st1 (get_st1 (get_st1 rfl (by decide) (fun q => tg2 q.2)) (by decide) (fun q => absurd q.1 (by decide))) (by decide) (fun q => absurd q.1 (by decide))) (by decide) ?_
                  refine hr_call (a0 := 22) (b := 222) (e := 1) (nl := 1) (As := []) (R := []) 192 rfl (by decide +kernel) rfl rfl (Nat.le_of_ble_eq_true rfl) (Nat.le_of_ble_eq_true rfl) ?_
                  refine hw_mono H ?_
                  rintro r ψ129 y129 ⟨hyx, hψx, z129, hr, H⟩
                  subst hyx
                  subst hψx
                  subst hr
                  refine ⟨hne0, ?_⟩
                  show hw sc (d + 2) 256 165 (jm_st1 (jm_st1 (jm_st1 [(0, (2, 192))] 1 (0, z1)) 2 (0, z115)) 3 (0, z116)) [(0, z129)] ψ126 y129 Q
                  obtain ⟨hz130, ht130, hf130⟩ := H
                  refine hw_if (a0 := 0) (b := 1) (e := 172) (by decide +kernel) hz130 (fun q => ?_) (fun q => ?_)
                  · have H := ht130 q
                    exact hw_vret (a0 := 0) (e := 0) (by decide +kernel) H
                  · have H := hf130 q
                    refine hw_ald (b := 0) (e := 0) (by decide +kernel) (get_st1 (get_st1 (get_st1 rfl (by decide) (fun q => tg2 q.2)) (by decide) (fun q => absurd q.1 (by decide))) (by decide) (fun q => absurd q.1 (by decide))) (by decide) ?_
                    refine hr_call (a0 := 22) (b := 223) (e := 1) (nl := 2) (As := []) (R := []) 192 rfl (by decide +kernel) rfl rfl (Nat.le_of_ble_eq_true rfl) (Nat.le_of_ble_eq_true rfl) ?_
                    refine hw_mono H ?_
                    rintro r ψ132 y132 ⟨hyx, hr, H⟩
                    subst hyx
                    subst hr
                    refine ⟨hnen, ?_⟩
                    show hw sc (d + 2) 256 172 (jm_st1 (jm_st1 (jm_st1 [(0, (2, 192))] 1 (0, z1)) 2 (0, z115)) 3 (0, z116)) [] ψ132 y132 Q
                    exact hw_vret (a0 := 0) (e := 0) (by decide +kernel) H
      · have H := hf90 q
        refine hw_ald (b := 0) (e := 0) (by decide +kernel) (get_st1 rfl (by decide) (fun q => tg2 q.2)) (by decide) ?_
        refine hw_ald (b := 0) (e := 0) (by decide +kernel) (get_st1 rfl (by decide) (fun q => tg2 q.2)) (by decide) ?_
        refine hr_gr (w := 194) (b := 12) (e := 6) 192 rfl (by decide +kernel) ?_
        refine hw_k (c := 3) (b := 0) (e := 1) (by decide +kernel) ?_
        refine hr_al (b := 0) (a0 := 0) (e := 0) (n := 361) (w := ψ1 194 3) 194 rfl (by decide +kernel) (by decide) (by decide) (by decide) rfl ?_
        refine hr_call (a0 := 22) (b := 257) (e := 2) (nl := 2) (As := [(0, ψ1 194 3)]) (R := []) 192 rfl (by decide +kernel) rfl rfl (Nat.le_of_ble_eq_true rfl) (Nat.le_of_ble_eq_true rfl) ?_
        refine hw_mono H ?_
        rintro r ψ134 y134 ⟨hyx, z134, hr, H⟩
        subst hyx
        subst hr
        refine ⟨hne0, ?_⟩
        show hw sc (d + 2) 256 39 (jm_st1 [(0, (2, 192))] 1 (0, z1)) [(0, z134)] ψ134 y134 Q
        refine hw_st (L' := (jm_st1 (jm_st1 [(0, (2, 192))] 1 (0, z1)) 2 (0, z134))) (b := 2) (e := 0) (by decide +kernel) rfl ?_
        refine hw_ald (b := 0) (e := 0) (by decide +kernel) (get_st1 (get_st1 rfl (by decide) (fun q => tg2 q.2)) (by decide) (fun q => absurd q.1 (by decide))) (by decide) ?_
        refine hw_ald (b := 0) (e := 0) (by decide +kernel) (get_st1 (get_st1 rfl (by decide) (fun q => tg2 q.2)) (by decide) (fun q => absurd q.1 (by decide))) (by decide) ?_
        refine hr_gr (w := 194) (b := 12) (e := 6) 192 rfl (by decide +kernel) ?_
        refine hw_k (c := 1) (b := 0) (e := 1) (by decide +kernel) ?_
        refine hr_al (b := 0) (a0 := 0) (e := 0) (n := 361) (w := ψ134 194 1) 194 rfl (by decide +kernel) (by decide) (by decide) (by decide) rfl ?_
        refine hr_call (a0 := 22) (b := 257) (e := 2) (nl := 2) (As := [(0, ψ134 194 1)]) (R := []) 192 rfl (by decide +kernel) rfl rfl (Nat.le_of_ble_eq_true rfl) (Nat.le_of_ble_eq_true rfl) ?_
        refine hw_mono H ?_
        rintro r ψ135 y135 ⟨hyx, z135, hr, H⟩
        subst hyx
        subst hr
        refine ⟨hne0, ?_⟩
        show hw sc (d + 2) 256 50 (jm_st1 (jm_st1 [(0, (2, 192))] 1 (0, z1)) 2 (0, z134)) [(0, z135)] ψ135 y135 Q
        refine hw_st (L' := (jm_st1 (jm_st1 (jm_st1 [(0, (2, 192))] 1 (0, z1)) 2 (0, z134)) 3 (0, z135))) (b := 3) (e := 0) (by decide +kernel) rfl ?_
        refine hw_ald (b := 0) (e := 0) (by decide +kernel) (get_st1 (get_st1 (get_st1 rfl (by decide) (fun q => tg2 q.2)) (by decide) (fun q => absurd q.1 (by decide))) (by decide) (fun q => absurd q.1 (by decide))) (by decide) ?_
        refine hr_gr (w := 194) (b := 12) (e := 6) 192 rfl (by decide +kernel) ?_
        refine hw_k (c := 112) (b := 1) (e := 2) (by decide +kernel) ?_
        refine hw_ld (b := 2) (e := 0) (by decide +kernel) (get_st1 get_st1e (by decide) (fun q => tg0 q.2)) ?_
        refine hw_bin (w := 112 + z134) (a0 := 0) (b := 0) (e := 0) (by decide +kernel) rfl ?_
        obtain ⟨hl136, hu136, H⟩ := H
        refine hr_al (b := 0) (a0 := 0) (e := 0) (n := 361) (w := ψ135 194 ((112 + z134).toNat)) 194 rfl (by decide +kernel) (by decide) hl136 hu136 rfl ?_
        obtain ⟨hz137, ht137, hf137⟩ := H
        refine hw_if (a0 := 0) (b := 5) (e := 76) (by decide +kernel) hz137 (fun q => ?_) (fun q => ?_)
        · have H := ht137 q
          refine hw_ald (b := 0) (e := 0) (by decide +kernel) (get_st1 (get_st1 (get_st1 rfl (by decide) (fun q => tg2 q.2)) (by decide) (fun q => absurd q.1 (by decide))) (by decide) (fun q => absurd q.1 (by decide))) (by decide) ?_
          refine hw_ld (b := 2) (e := 0) (by decide +kernel) (get_st1 get_st1e (by decide) (fun q => tg0 q.2)) ?_
          refine hw_ld (b := 3) (e := 0) (by decide +kernel) get_st1e ?_
          refine hr_call (a0 := 22) (b := 215) (e := 3) (nl := 3) (As := [(0, z134), (0, z135)]) (R := []) 192 rfl (by decide +kernel) rfl rfl (Nat.le_of_ble_eq_true rfl) (Nat.le_of_ble_eq_true rfl) ?_
          refine hw_mono H ?_
          rintro r ψ138 y138 ⟨hyx, hψx, z138, hr, H⟩
          subst hyx
          subst hψx
          subst hr
          refine ⟨hne0, ?_⟩
          show hw sc (d + 2) 256 82 (jm_st1 (jm_st1 (jm_st1 [(0, (2, 192))] 1 (0, z1)) 2 (0, z134)) 3 (0, z135)) [(0, z138)] ψ135 y138 Q
          obtain ⟨hz139, ht139, hf139⟩ := H
          refine hw_if (a0 := 0) (b := 1) (e := 97) (by decide +kernel) hz139 (fun q => ?_) (fun q => ?_)
          · have H := ht139 q
            refine hw_ld (b := 1) (e := 0) (by decide +kernel) (get_st1 (get_st1 get_st1e (by decide) (fun q => tg0 q.2)) (by decide) (fun q => absurd q.1 (by decide))) ?_
            refine hw_k (c := 1) (b := 0) (e := 1) (by decide +kernel) ?_
            obtain ⟨hz140, hy140, ht140, hf140⟩ := H
            refine hw_if2 (a0 := 0) (b := 1) (e := 156) (by decide +kernel) hz140 hy140 (fun q => ?_) (fun q => ?_)
            · have H := ht140 q
              refine hw_ld (b := 1) (e := 0) (by decide +kernel) (get_st1 (get_st1 get_st1e (by decide) (fun q => tg0 q.2)) (by decide) (fun q => absurd q.1 (by decide))) ?_
              refine hw_k (c := 2) (b := 0) (e := 1) (by decide +kernel) ?_
              obtain ⟨hz141, hy141, ht141, hf141⟩ := H
              refine hw_if2 (a0 := 0) (b := 1) (e := 172) (by decide +kernel) hz141 hy141 (fun q => ?_) (fun q => ?_)
              · have H := ht141 q
                exact hw_vret (a0 := 0) (e := 0) (by decide +kernel) H
              · have H := hf141 q
                refine hw_ald (b := 0) (e := 0) (by decide +kernel) (get_st1 (get_st1 (get_st1 rfl (by decide) (fun q => tg2 q.2)) (by decide) (fun q => absurd q.1 (by decide))) (by decide) (fun q => absurd q.1 (by decide))) (by decide) ?_
                refine hr_call (a0 := 22) (b := 222) (e := 1) (nl := 1) (As := []) (R := []) 192 rfl (by decide +kernel) rfl rfl (Nat.le_of_ble_eq_true rfl) (Nat.le_of_ble_eq_true rfl) ?_
                refine hw_mono H ?_
                rintro r ψ143 y143 ⟨hyx, hψx, z143, hr, H⟩
                subst hyx
                subst hψx
                subst hr
                refine ⟨hne0, ?_⟩
                show hw sc (d + 2) 256 165 (jm_st1 (jm_st1 (jm_st1 [(0, (2, 192))] 1 (0, z1)) 2 (0, z134)) 3 (0, z135)) [(0, z143)] ψ135 y143 Q
                obtain ⟨hz144, ht144, hf144⟩ := H
                refine hw_if (a0 := 0) (b := 1) (e := 172) (by decide +kernel) hz144 (fun q => ?_) (fun q => ?_)
                · have H := ht144 q
                  exact hw_vret (a0 := 0) (e := 0) (by decide +kernel) H
                · have H := hf144 q
                  refine hw_ald (b := 0) (e := 0) (by decide +kernel) (get_st1 (get_st1 (get_st1 rfl (by decide) (fun q => tg2 q.2)) (by decide) (fun q => absurd q.1 (by decide))) (by decide) (fun q => absurd q.1 (by decide))) (by decide) ?_
                  refine hr_call (a0 := 22) (b := 223) (e := 1) (nl := 2) (As := []) (R := []) 192 rfl (by decide +kernel) rfl rfl (Nat.le_of_ble_eq_true rfl) (Nat.le_of_ble_eq_true rfl) ?_
                  refine hw_mono H ?_
                  rintro r ψ146 y146 ⟨hyx, hr, H⟩
                  subst hyx
                  subst hr
                  refine ⟨hnen, ?_⟩
                  show hw sc (d + 2) 256 172 (jm_st1 (jm_st1 (jm_st1 [(0, (2, 192))] 1 (0, z1)) 2 (0, z134)) 3 (0, z135)) [] ψ146 y146 Q
                  exact hw_vret (a0 := 0) (e := 0) (by decide +kernel) H
            · have H := hf140 q
              refine hw_ald (b := 0) (e := 0) (by decide +kernel) (get_st1 (get_st1 (get_st1 rfl (by decide) (fun q => tg2 q.2)) (by decide) (fun q => absurd q.1 (by decide))) (by decide) (fun q => absurd q.1 (by decide))) (by decide) ?_
              refine hr_gr (w := 194) (b := 12) (e := 6) 192 rfl (by decide +kernel) ?_
              refine hw_k (c := 3) (b := 0) (e := 1) (by decide +kernel) ?_
              refine hr_al (b := 0) (a0 := 0) (e := 0) (n := 361) (w := ψ135 194 3) 194 rfl (by decide +kernel) (by decide) (by decide) (by decide) rfl ?_
              obtain ⟨hz148, ht148, hf148⟩ := H
              refine hw_if (a0 := 0) (b := 5) (e := 156) (by decide +kernel) hz148 (fun q => ?_) (fun q => ?_)
              · have H := ht148 q
                refine hw_ld (b := 1) (e := 0) (by decide +kernel) (get_st1 (get_st1 get_st1e (by decide) (fun q => tg0 q.2)) (by decide) (fun q => absurd q.1 (by decide))) ?_
                refine hw_k (c := 2) (b := 0) (e := 1) (by decide +kernel) ?_
                obtain ⟨hz149, hy149, ht149, hf149⟩ := H
                refine hw_if2 (a0 := 0) (b := 1) (e := 172) (by decide +kernel) hz149 hy149 (fun q => ?_) (fun q => ?_)
                · have H := ht149 q
                  exact hw_vret (a0 := 0) (e := 0) (by decide +kernel) H
                · have H := hf149 q
                  refine hw_ald (b := 0) (e := 0) (by decide +kernel) (get_st1 (get_st1 (get_st1 rfl (by decide) (fun q => tg2 q.2)) (by decide) (fun q => absurd q.1 (by decide))) (by decide) (fun q => absurd q.1 (by decide))) (by decide) ?_
                  refine hr_call (a0 := 22) (b := 222) (e := 1) (nl := 1) (As := []) (R := []) 192 rfl (by decide +kernel) rfl rfl (Nat.le_of_ble_eq_true rfl) (Nat.le_of_ble_eq_true rfl) ?_
                  refine hw_mono H ?_
                  rintro r ψ151 y151 ⟨hyx, hψx, z151, hr, H⟩
                  subst hyx
                  subst hψx
                  subst hr
                  refine ⟨hne0, ?_⟩
                  show hw sc (d + 2) 256 165 (jm_st1 (jm_st1 (jm_st1 [(0, (2, 192))] 1 (0, z1)) 2 (0, z134)) 3 (0, z135)) [(0, z151)] ψ135 y151 Q
                  obtain ⟨hz152, ht152, hf152⟩ := H
                  refine hw_if (a0 := 0) (b := 1) (e := 172) (by decide +kernel) hz152 (fun q => ?_) (fun q => ?_)
                  · have H := ht152 q
                    exact hw_vret (a0 := 0) (e := 0) (by decide +kernel) H
                  · have H := hf152 q
                    refine hw_ald (b := 0) (e := 0) (by decide +kernel) (get_st1 (get_st1 (get_st1 rfl (by decide) (fun q => tg2 q.2)) (by decide) (fun q => absurd q.1 (by decide))) (by decide) (fun q => absurd q.1 (by decide))) (by decide) ?_
                    refine hr_call (a0 := 22) (b := 223) (e := 1) (nl := 2) (As := []) (R := []) 192 rfl (by decide +kernel) rfl rfl (Nat.le_of_ble_eq_true rfl) (Nat.le_of_ble_eq_true rfl) ?_
                    refine hw_mono H ?_
                    rintro r ψ154 y154 ⟨hyx, hr, H⟩
                    subst hyx
                    subst hr
                    refine ⟨hnen, ?_⟩
                    show hw sc (d + 2) 256 172 (jm_st1 (jm_st1 (jm_st1 [(0, (2, 192))] 1 (0, z1)) 2 (0, z134)) 3 (0, z135)) [] ψ154 y154 Q
                    exact hw_vret (a0 := 0) (e := 0) (by decide +kernel) H
              · have H := hf148 q
                refine hw_ald (b := 0) (e := 0) (by decide +kernel) (get_st1 (get_st1 (get_st1 rfl (by decide) (fun q => tg2 q.2)) (by decide) (fun q => absurd q.1 (by decide))) (by decide) (fun q => absurd q.1 (by decide))) (by decide) ?_
                refine hr_gr (w := 194) (b := 12) (e := 6) 192 rfl (by decide +kernel) ?_
                refine hw_k (c := 2) (b := 0) (e := 1) (by decide +kernel) ?_
                refine hr_al (b := 0) (a0 := 0) (e := 0) (n := 361) (w := ψ135 194 2) 194 rfl (by decide +kernel) (by decide) (by decide) (by decide) rfl ?_
                obtain ⟨hz156, ht156, hf156⟩ := H
                refine hw_if (a0 := 0) (b := 5) (e := 156) (by decide +kernel) hz156 (fun q => ?_) (fun q => ?_)
                · have H := ht156 q
                  refine hw_ld (b := 1) (e := 0) (by decide +kernel) (get_st1 (get_st1 get_st1e (by decide) (fun q => tg0 q.2)) (by decide) (fun q => absurd q.1 (by decide))) ?_
                  refine hw_k (c := 2) (b := 0) (e := 1) (by decide +kernel) ?_
                  obtain ⟨hz157, hy157, ht157, hf157⟩ := H
                  refine hw_if2 (a0 := 0) (b := 1) (e := 172) (by decide +kernel) hz157 hy157 (fun q => ?_) (fun q => ?_)
                  · have H := ht157 q
                    exact hw_vret (a0 := 0) (e := 0) (by decide +kernel) H
                  · have H := hf157 q
                    refine hw_ald (b := 0) (e := 0) (by decide +kernel) (get_st1 (get_st1 (get_st1 rfl (by decide) (fun q => tg2 q.2)) (by decide) (fun q => absurd q.1 (by decide))) (by decide) (fun q => absurd q.1 (by decide))) (by decide) ?_
                    refine hr_call (a0 := 22) (b := 222) (e := 1) (nl := 1) (As := []) (R := []) 192 rfl (by decide +kernel) rfl rfl (Nat.le_of_ble_eq_true rfl) (Nat.le_of_ble_eq_true rfl) ?_
                    refine hw_mono H ?_
                    rintro r ψ159 y159 ⟨hyx, hψx, z159, hr, H⟩
                    subst hyx
                    subst hψx
                    subst hr
                    refine ⟨hne0, ?_⟩
                    show hw sc (d + 2) 256 165 (jm_st1 (jm_st1 (jm_st1 [(0, (2, 192))] 1 (0, z1)) 2 (0, z134)) 3 (0, z135)) [(0, z159)] ψ135 y159 Q
                    obtain ⟨hz160, ht160, hf160⟩ := H
                    refine hw_if (a0 := 0) (b := 1) (e := 172) (by decide +kernel) hz160 (fun q => ?_) (fun q => ?_)
                    · have H := ht160 q
                      exact hw_vret (a0 := 0) (e := 0) (by decide +kernel) H
                    · have H := hf160 q
                      refine hw_ald (b := 0) (e := 0) (by decide +kernel) (get_st1 (get_st1 (get_st1 rfl (by decide) (fun q => tg2 q.2)) (by decide) (fun q => absurd q.1 (by decide))) (by decide) (fun q => absurd q.1 (by decide))) (by decide) ?_
                      refine hr_call (a0 := 22) (b := 223) (e := 1) (nl := 2) (As := []) (R := []) 192 rfl (by decide +kernel) rfl rfl (Nat.le_of_ble_eq_true rfl) (Nat.le_of_ble_eq_true rfl) ?_
                      refine hw_mono H ?_
                      rintro r ψ162 y162 ⟨hyx, hr, H⟩
                      subst hyx
                      subst hr
                      refine ⟨hnen, ?_⟩
                      show hw sc (d + 2) 256 172 (jm_st1 (jm_st1 (jm_st1 [(0, (2, 192))] 1 (0, z1)) 2 (0, z134)) 3 (0, z135)) [] ψ162 y162 Q
                      exact hw_vret (a0 := 0) (e := 0) (by decide +kernel) H
                · have H := hf156 q
                  refine hw_ald (b := 0) (e := 0) (by decide +kernel) (get_st1 (get_st1 (get_st1 rfl (by decide) (fun q => tg2 q.2)) (by decide) (fun q => absurd q.1 (by decide))) (by decide) (fun q => absurd q.1 (by decide))) (by decide) ?_
                  refine hw_ald (b := 0) (e := 0) (by decide +kernel) (get_st1 (get_st1 (get_st1 rfl (by decide) (fun q => tg2 q.2)) (by decide) (fun q => absurd q.1 (by decide))) (by decide) (fun q => absurd q.1 (by decide))) (by decide) ?_
                  refine hr_gr (w := 194) (b := 12) (e := 6) 192 rfl (by decide +kernel) ?_
                  refine hw_k (c := 3) (b := 0) (e := 1) (by decide +kernel) ?_
                  refine hr_al (b := 0) (a0 := 0) (e := 0) (n := 361) (w := ψ135 194 3) 194 rfl (by decide +kernel) (by decide) (by decide) (by decide) rfl ?_
                  refine hr_call (a0 := 22) (b := 257) (e := 2) (nl := 2) (As := [(0, ψ135 194 3)]) (R := []) 192 rfl (by decide +kernel) rfl rfl (Nat.le_of_ble_eq_true rfl) (Nat.le_of_ble_eq_true rfl) ?_
                  refine hw_mono H ?_
                  rintro r ψ164 y164 ⟨hyx, z164, hr, H⟩
                  subst hyx
                  subst hr
                  refine ⟨hne0, ?_⟩
                  show hw sc (d + 2) 256 130 (jm_st1 (jm_st1 (jm_st1 [(0, (2, 192))] 1 (0, z1)) 2 (0, z134)) 3 (0, z135)) [(0, z164)] ψ164 y164 Q
                  refine hw_st (L' := (jm_st1 (jm_st1 (jm_st1 (jm_st1 [(0, (2, 192))] 1 (0, z1)) 2 (0, z134)) 3 (0, z135)) 2 (0, z164))) (b := 2) (e := 0) (by decide +kernel) rfl ?_
                  refine hw_ald (b := 0) (e := 0) (by decide +kernel) (get_st1 (get_st1 (get_st1 (get_st1 rfl (by decide) (fun q => tg2 q.2)) (by decide) (fun q => absurd q.1 (by decide))) (by decide) (fun q => absurd q.1 (by decide))) (by decide) (fun q => absurd q.1 (by decide))) (by decide) ?_
                  refine hw_ald (b := 0) (e := 0) (by decide +kernel) (get_st1 (get_st1 (get_st1 (get_st1 rfl (by decide) (fun q => tg2 q.2)) (by decide) (fun q => absurd q.1 (by decide))) (by decide) (fun q => absurd q.1 (by decide))) (by decide) (fun q => absurd q.1 (by decide))) (by decide) ?_
                  refine hr_gr (w := 194) (b := 12) (e := 6) 192 rfl (by decide +kernel) ?_
                  refine hw_k (c := 2) (b := 0) (e := 1) (by decide +kernel) ?_
                  refine hr_al (b := 0) (a0 := 0) (e := 0) (n := 361) (w := ψ164 194 2) 194 rfl (by decide +kernel) (by decide) (by decide) (by decide) rfl ?_
                  refine hr_call (a0 := 22) (b := 257) (e := 2) (nl := 2) (As := [(0, ψ164 194 2)]) (R := []) 192 rfl (by decide +kernel) rfl rfl (Nat.le_of_ble_eq_true rfl) (Nat.le_of_ble_eq_true rfl) ?_
                  refine hw_mono H ?_
                  rintro r ψ165 y165 ⟨hyx, z165, hr, H⟩
                  subst hyx
                  subst hr
                  refine ⟨hne0, ?_⟩
                  show hw sc (d + 2) 256 141 (jm_st1 (jm_st1 (jm_st1 (jm_st1 [(0, (2, 192))] 1 (0, z1)) 2 (0, z134)) 3 (0, z135)) 2 (0, z164)) [(0, z165)] ψ165 y165 Q
                  refine hw_st (L' := (jm_st1 (jm_st1 (jm_st1 (jm_st1 (jm_st1 [(0, (2, 192))] 1 (0, z1)) 2 (0, z134)) 3 (0, z135)) 2 (0, z164)) 3 (0, z165))) (b := 3) (e := 0) (by decide +kernel) rfl ?_
                  refine hw_ald (b := 0) (e := 0) (by decide +kernel) (get_st1 (get_st1 (get_st1 (get_st1 (get_st1 rfl (by decide) (fun q => tg2 q.2)) (by decide) (fun q => absurd q.1 (by decide))) (by decide) (fun q => absurd q.1 (by decide))) (by decide) (fun q => absurd q.1 (by decide))) (by decide) (fun q => absurd q.1 (by decide))) (by decide) ?_
                  refine hw_ld (b := 2) (e := 0) (by decide +kernel) (get_st1 get_st1e (by decide) (fun q => tg0 q.2)) ?_
                  refine hr_call (a0 := 22) (b := 219) (e := 2) (nl := 2) (As := [(0, z164)]) (R := []) 192 rfl (by decide +kernel) rfl rfl (Nat.le_of_ble_eq_true rfl) (Nat.le_of_ble_eq_true rfl) ?_
                  refine hw_mono H ?_
                  rintro r ψ166 y166 ⟨hyx, hψx, z166, hr, H⟩
                  subst hyx
                  subst hψx
                  subst hr
                  refine ⟨hne0, ?_⟩
                  show hw sc (d + 2) 256 147 (jm_st1 (jm_st1 (jm_st1 (jm_st1 (jm_st1 [(0, (2, 192))] 1 (0, z1)) 2 (0, z134)) 3 (0, z135)) 2 (0, z164)) 3 (0, z165)) [(0, z166)] ψ165 y166 Q
                  obtain ⟨hz167, ht167, hf167⟩ := H
                  refine hw_if (a0 := 0) (b := 1) (e := 156) (by decide +kernel) hz167 (fun q => ?_) (fun q => ?_)
                  · have H := ht167 q
                    refine hw_ld (b := 1) (e := 0) (by decide +kernel) (get_st1 (get_st1 (get_st1 (get_st1 get_st1e (by decide) (fun q => tg0 q.2)) (by decide) (fun q => absurd q.1 (by decide))) (by decide) (fun q => tg0 q.2)) (by decide) (fun q => absurd q.1 (by decide))) ?_
                    refine hw_k (c := 2) (b := 0) (e := 1) (by decide +kernel) ?_
                    obtain ⟨hz168, hy168, ht168, hf168⟩ := H
                    refine hw_if2 (a0 := 0) (b := 1) (e := 172) (by decide +kernel) hz168 hy168 (fun q => ?_) (fun q => ?_)
                    · have H := ht168 q
                      exact hw_vret (a0 := 0) (e := 0) (by decide +kernel) H
                    · have H := hf168 q
                      refine hw_ald (b := 0) (e := 0) (by decide +kernel) (get_st1 (get_st1 (get_st1 (get_st1 (get_st1 rfl (by decide) (fun q => tg2 q.2)) (by decide) (fun q => absurd q.1 (by decide))) (by decide) (fun q => absurd q.1 (by decide))) (by decide) (fun q => absurd q.1 (by decide))) (by decide) (fun q => absurd q.1 (by decide))) (by decide) ?_
                      refine hr_call (a0 := 22) (b := 222) (e := 1) (nl := 1) (As := []) (R := []) 192 rfl (by decide +kernel) rfl rfl (Nat.le_of_ble_eq_true rfl) (Nat.le_of_ble_eq_true rfl) ?_
                      refine hw_mono H ?_
                      rintro r ψ170 y170 ⟨hyx, hψx, z170, hr, H⟩
                      subst hyx
                      subst hψx
                      subst hr
                      refine ⟨hne0, ?_⟩
                      show hw sc (d + 2) 256 165 (jm_st1 (jm_st1 (jm_st1 (jm_st1 (jm_st1 [(0, (2, 192))] 1 (0, z1)) 2 (0, z134)) 3 (0, z135)) 2 (0, z164)) 3 (0, z165)) [(0, z170)] ψ165 y170 Q
                      obtain ⟨hz171, ht171, hf171⟩ := H
                      refine hw_if (a0 := 0) (b := 1) (e := 172) (by decide +kernel) hz171 (fun q => ?_) (fun q => ?_)
                      · have H := ht171 q
                        exact hw_vret (a0 := 0) (e := 0) (by decide +kernel) H
                      · have H := hf171 q
                        refine hw_ald (b := 0) (e := 0) (by decide +kernel) (get_st1 (get_st1 (get_st1 (get_st1 (get_st1 rfl (by decide) (fun q => tg2 q.2)) (by decide) (fun q => absurd q.1 (by decide))) (by decide) (fun q => absurd q.1 (by decide))) (by decide) (fun q => absurd q.1 (by decide))) (by decide) (fun q => absurd q.1 (by decide))) (by decide) ?_
                        refine hr_call (a0 := 22) (b := 223) (e := 1) (nl := 2) (As := []) (R := []) 192 rfl (by decide +kernel) rfl rfl (Nat.le_of_ble_eq_true rfl) (Nat.le_of_ble_eq_true rfl) ?_
                        refine hw_mono H ?_
                        rintro r ψ173 y173 ⟨hyx, hr, H⟩
                        subst hyx
                        subst hr
                        refine ⟨hnen, ?_⟩
                        show hw sc (d + 2) 256 172 (jm_st1 (jm_st1 (jm_st1 (jm_st1 (jm_st1 [(0, (2, 192))] 1 (0, z1)) 2 (0, z134)) 3 (0, z135)) 2 (0, z164)) 3 (0, z165)) [] ψ173 y173 Q
                        exact hw_vret (a0 := 0) (e := 0) (by decide +kernel) H
                  · have H := hf167 q
                    refine hw_ald (b := 0) (e := 0) (by decide +kernel) (get_st1 (get_st1 (get_st1 (get_st1 (get_st1 rfl (by decide) (fun q => tg2 q.2)) (by decide) (fun q => absurd q.1 (by decide))) (by decide) (fun q => absurd q.1 (by decide))) (by decide) (fun q => absurd q.1 (by decide))) (by decide) (fun q => absurd q.1 (by decide))) (by decide) ?_
                    refine hw_ld (b := 2) (e := 0) (by decide +kernel) (get_st1 get_st1e (by decide) (fun q => tg0 q.2)) ?_
                    refine hw_ld (b := 3) (e := 0) (by decide +kernel) get_st1e ?_
                    refine hr_call (a0 := 22) (b := 220) (e := 3) (nl := 3) (As := [(0, z164), (0, z165)]) (R := []) 192 rfl (by decide +kernel) rfl rfl (Nat.le_of_ble_eq_true rfl) (Nat.le_of_ble_eq_true rfl) ?_
                    refine hw_mono H ?_
                    rintro r ψ175 y175 ⟨hyx, hr, H⟩
                    subst hyx
                    subst hr
                    refine ⟨hnen, ?_⟩
                    show hw sc (d + 2) 256 156 (jm_st1 (jm_st1 (jm_st1 (jm_st1 (jm_st1 [(0, (2, 192))] 1 (0, z1)) 2 (0, z134)) 3 (0, z135)) 2 (0, z164)) 3 (0, z165)) [] ψ175 y175 Q
                    refine hw_ld (b := 1) (e := 0) (by decide +kernel) (get_st1 (get_st1 (get_st1 (get_st1 get_st1e (by decide) (fun q => tg0 q.2)) (by decide) (fun q => absurd q.1 (by decide))) (by decide) (fun q => tg0 q.2)) (by decide) (fun q => absurd q.1 (by decide))) ?_
                    refine hw_k (c := 2) (b := 0) (e := 1) (by decide +kernel) ?_
                    obtain ⟨hz176, hy176, ht176, hf176⟩ := H
                    refine hw_if2 (a0 := 0) (b := 1) (e := 172) (by decide +kernel) hz176 hy176 (fun q => ?_) (fun q => ?_)
                    · have H := ht176 q
                      exact hw_vret (a0 := 0) (e := 0) (by decide +kernel) H
                    · have H := hf176 q
                      refine hw_ald (b := 0) (e := 0) (by decide +kernel) (get_st1 (get_st1 (get_st1 (get_st1 (get_st1 rfl (by decide) (fun q => tg2 q.2)) (by decide) (fun q => absurd q.1 (by decide))) (by decide) (fun q => absurd q.1 (by decide))) (by decide) (fun q => absurd q.1 (by decide))) (by decide) (fun q => absurd q.1 (by decide))) (by decide) ?_
                      refine hr_call (a0 := 22) (b := 222) (e := 1) (nl := 1) (As := []) (R := []) 192 rfl (by decide +kernel) rfl rfl (Nat.le_of_ble_eq_true rfl) (Nat.le_of_ble_eq_true rfl) ?_
                      refine hw_mono H ?_
                      rintro r ψ178 y178 ⟨hyx, hψx, z178, hr, H⟩
                      subst hyx
                      subst hψx
                      subst hr
                      refine ⟨hne0, ?_⟩
                      show hw sc (d + 2) 256 165 (jm_st1 (jm_st1 (jm_st1 (jm_st1 (jm_st1 [(0, (2, 192))] 1 (0, z1)) 2 (0, z134)) 3 (0, z135)) 2 (0, z164)) 3 (0, z165)) [(0, z178)] ψ175 y178 Q
                      obtain ⟨hz179, ht179, hf179⟩ := H
                      refine hw_if (a0 := 0) (b := 1) (e := 172) (by decide +kernel) hz179 (fun q => ?_) (fun q => ?_)
                      · have H := ht179 q
                        exact hw_vret (a0 := 0) (e := 0) (by decide +kernel) H
                      · have H := hf179 q
                        refine hw_ald (b := 0) (e := 0) (by decide +kernel) (get_st1 (get_st1 (get_st1 (get_st1 (get_st1 rfl (by decide) (fun q => tg2 q.2)) (by decide) (fun q => absurd q.1 (by decide))) (by decide) (fun q => absurd q.1 (by decide))) (by decide) (fun q => absurd q.1 (by decide))) (by decide) (fun q => absurd q.1 (by decide))) (by decide) ?_
                        refine hr_call (a0 := 22) (b := 223) (e := 1) (nl := 2) (As := []) (R := []) 192 rfl (by decide +kernel) rfl rfl (Nat.le_of_ble_eq_true rfl) (Nat.le_of_ble_eq_true rfl) ?_
                        refine hw_mono H ?_
                        rintro r ψ181 y181 ⟨hyx, hr, H⟩
                        subst hyx
                        subst hr
                        refine ⟨hnen, ?_⟩
                        show hw sc (d + 2) 256 172 (jm_st1 (jm_st1 (jm_st1 (jm_st1 (jm_st1 [(0, (2, 192))] 1 (0, z1)) 2 (0, z134)) 3 (0, z135)) 2 (0, z164)) 3 (0, z165)) [] ψ181 y181 Q
                        exact hw_vret (a0 := 0) (e := 0) (by decide +kernel) H
          · have H := hf139 q
            refine hw_ald (b := 0) (e := 0) (by decide +kernel) (get_st1 (get_st1 (get_st1 rfl (by decide) (fun q => tg2 q.2)) (by decide) (fun q => absurd q.1 (by decide))) (by decide) (fun q => absurd q.1 (by decide))) (by decide) ?_
            refine hr_gr (w := 194) (b := 12) (e := 6) 192 rfl (by decide +kernel) ?_
            refine hw_k (c := 112) (b := 1) (e := 2) (by decide +kernel) ?_
            refine hw_ld (b := 2) (e := 0) (by decide +kernel) (get_st1 get_st1e (by decide) (fun q => tg0 q.2)) ?_
            refine hw_bin (w := 112 + z134) (a0 := 0) (b := 0) (e := 0) (by decide +kernel) rfl ?_
            refine hw_ld (b := 3) (e := 0) (by decide +kernel) get_st1e ?_
            refine hw_k (c := 1) (b := 0) (e := 1) (by decide +kernel) ?_
            refine hw_bin (w := z135 + 1) (a0 := 0) (b := 0) (e := 0) (by decide +kernel) rfl ?_
            obtain ⟨hl183, hu183, H⟩ := H
            refine hr_as (a0 := 0) (e := 4) (n := 361) 194 rfl (by decide +kernel) hl183 hu183 ?_
            refine hw_ld (b := 1) (e := 0) (by decide +kernel) (get_st1 (get_st1 get_st1e (by decide) (fun q => tg0 q.2)) (by decide) (fun q => absurd q.1 (by decide))) ?_
            refine hw_k (c := 1) (b := 0) (e := 1) (by decide +kernel) ?_
            obtain ⟨hz184, hy184, ht184, hf184⟩ := H
            refine hw_if2 (a0 := 0) (b := 1) (e := 156) (by decide +kernel) hz184 hy184 (fun q => ?_) (fun q => ?_)
            · have H := ht184 q
              refine hw_ld (b := 1) (e := 0) (by decide +kernel) (get_st1 (get_st1 get_st1e (by decide) (fun q => tg0 q.2)) (by decide) (fun q => absurd q.1 (by decide))) ?_
              refine hw_k (c := 2) (b := 0) (e := 1) (by decide +kernel) ?_
              obtain ⟨hz185, hy185, ht185, hf185⟩ := H
              refine hw_if2 (a0 := 0) (b := 1) (e := 172) (by decide +kernel) hz185 hy185 (fun q => ?_) (fun q => ?_)
              · have H := ht185 q
                exact hw_vret (a0 := 0) (e := 0) (by decide +kernel) H
              · have H := hf185 q
                refine hw_ald (b := 0) (e := 0) (by decide +kernel) (get_st1 (get_st1 (get_st1 rfl (by decide) (fun q => tg2 q.2)) (by decide) (fun q => absurd q.1 (by decide))) (by decide) (fun q => absurd q.1 (by decide))) (by decide) ?_
                refine hr_call (a0 := 22) (b := 222) (e := 1) (nl := 1) (As := []) (R := []) 192 rfl (by decide +kernel) rfl rfl (Nat.le_of_ble_eq_true rfl) (Nat.le_of_ble_eq_true rfl) ?_
                refine hw_mono H ?_
                rintro r ψ187 y187 ⟨hyx, hψx, z187, hr, H⟩
                subst hyx
                subst hψx
                subst hr
                refine ⟨hne0, ?_⟩
                show hw sc (d + 2) 256 165 (jm_st1 (jm_st1 (jm_st1 [(0, (2, 192))] 1 (0, z1)) 2 (0, z134)) 3 (0, z135)) [(0, z187)] (hf_up ψ135 194 ((112 + z134).toNat) (z135 + 1)) y187 Q
                obtain ⟨hz188, ht188, hf188⟩ := H
                refine hw_if (a0 := 0) (b := 1) (e := 172) (by decide +kernel) hz188 (fun q => ?_) (fun q => ?_)
                · have H := ht188 q
                  exact hw_vret (a0 := 0) (e := 0) (by decide +kernel) H
                · have H := hf188 q
                  refine hw_ald (b := 0) (e := 0) (by decide +kernel) (get_st1 (get_st1 (get_st1 rfl (by decide) (fun q => tg2 q.2)) (by decide) (fun q => absurd q.1 (by decide))) (by decide) (fun q => absurd q.1 (by decide))) (by decide) ?_
                  refine hr_call (a0 := 22) (b := 223) (e := 1) (nl := 2) (As := []) (R := []) 192 rfl (by decide +kernel) rfl rfl (Nat.le_of_ble_eq_true rfl) (Nat.le_of_ble_eq_true rfl) ?_
                  refine hw_mono H ?_
                  rintro r ψ190 y190 ⟨hyx, hr, H⟩
                  subst hyx
                  subst hr
                  refine ⟨hnen, ?_⟩
                  show hw sc (d + 2) 256 172 (jm_st1 (jm_st1 (jm_st1 [(0, (2, 192))] 1 (0, z1)) 2 (0, z134)) 3 (0, z135)) [] ψ190 y190 Q
                  exact hw_vret (a0 := 0) (e := 0) (by decide +kernel) H
            · have H := hf184 q
              refine hw_ald (b := 0) (e := 0) (by decide +kernel) (get_st1 (get_st1 (get_st1 rfl (by decide) (fun q => tg2 q.2)) (by decide) (fun q => absurd q.1 (by decide))) (by decide) (fun q => absurd q.1 (by decide))) (by decide) ?_
              refine hr_gr (w := 194) (b := 12) (e := 6) 192 rfl (by decide +kernel) ?_
              refine hw_k (c := 3) (b := 0) (e := 1) (by decide +kernel) ?_
              refine hr_al (b := 0) (a0 := 0) (e := 0) (n := 361) (w := (hf_up ψ135 194 ((112 + z134).toNat) (z135 + 1)) 194 3) 194 rfl (by decide +kernel) (by decide) (by decide) (by decide) rfl ?_
              obtain ⟨hz192, ht192, hf192⟩ := H
              refine hw_if (a0 := 0) (b := 5) (e := 156) (by decide +kernel) hz192 (fun q => ?_) (fun q => ?_)
              · have H := ht192 q
                refine hw_ld (b := 1) (e := 0) (by decide +kernel) (get_st1 (get_st1 get_st1e (by decide) (fun q => tg0 q.2)) (by decide) (fun q => absurd q.1 (by decide))) ?_
                refine hw_k (c := 2) (b := 0) (e := 1) (by decide +kernel) ?_
                obtain ⟨hz193, hy193, ht193, hf193⟩ := H
                refine hw_if2 (a0 := 0) (b := 1) (e := 172) (by decide +kernel) hz193 hy193 (fun q => ?_) (fun q => ?_)
                · have H := ht193 q
                  exact hw_vret (a0 := 0) (e := 0) (by decide +kernel) H
                · have H := hf193 q
                  refine hw_ald (b := 0) (e := 0) (by decide +kernel) (get_st1 (get_st1 (get_st1 rfl (by decide) (fun q => tg2 q.2)) (by decide) (fun q => absurd q.1 (by decide))) (by decide) (fun q => absurd q.1 (by decide))) (by decide) ?_
                  refine hr_call (a0 := 22) (b := 222) (e := 1) (nl := 1) (As := []) (R := []) 192 rfl (by decide +kernel) rfl rfl (Nat.le_of_ble_eq_true rfl) (Nat.le_of_ble_eq_true rfl) ?_
                  refine hw_mono H ?_
                  rintro r ψ195 y195 ⟨hyx, hψx, z195, hr, H⟩
                  subst hyx
                  subst hψx
                  subst hr
                  refine ⟨hne0, ?_⟩
                  show hw sc (d + 2) 256 165 (jm_st1 (jm_st1 (jm_st1 [(0, (2, 192))] 1 (0, z1)) 2 (0, z134)) 3 (0, z135)) [(0, z195)] (hf_up ψ135 194 ((112 + z134).toNat) (z135 + 1)) y195 Q
                  obtain ⟨hz196, ht196, hf196⟩ := H
                  refine hw_if (a0 := 0) (b := 1) (e := 172) (by decide +kernel) hz196 (fun q => ?_) (fun q => ?_)
                  · have H := ht196 q
                    exact hw_vret (a0 := 0) (e := 0) (by decide +kernel) H
                  · have H := hf196 q
                    refine hw_ald (b := 0) (e := 0) (by decide +kernel) (get_st1 (get_st1 (get_st1 rfl (by decide) (fun q => tg2 q.2)) (by decide) (fun q => absurd q.1 (by decide))) (by decide) (fun q => absurd q.1 (by decide))) (by decide) ?_
                    refine hr_call (a0 := 22) (b := 223) (e := 1) (nl := 2) (As := []) (R := []) 192 rfl (by decide +kernel) rfl rfl (Nat.le_of_ble_eq_true rfl) (Nat.le_of_ble_eq_true rfl) ?_
                    refine hw_mono H ?_
                    rintro r ψ198 y198 ⟨hyx, hr, H⟩
                    subst hyx
                    subst hr
                    refine ⟨hnen, ?_⟩
                    show hw sc (d + 2) 256 172 (jm_st1 (jm_st1 (jm_st1 [(0, (2, 192))] 1 (0, z1)) 2 (0, z134)) 3 (0, z135)) [] ψ198 y198 Q
                    exact hw_vret (a0 := 0) (e := 0) (by decide +kernel) H
              · have H := hf192 q
                refine hw_ald (b := 0) (e := 0) (by decide +kernel) (get_st1 (get_st1 (get_st1 rfl (by decide) (fun q => tg2 q.2)) (by decide) (fun q => absurd q.1 (by decide))) (by decide) (fun q => absurd q.1 (by decide))) (by decide) ?_
                refine hr_gr (w := 194) (b := 12) (e := 6) 192 rfl (by decide +kernel) ?_
                refine hw_k (c := 2) (b := 0) (e := 1) (by decide +kernel) ?_
                refine hr_al (b := 0) (a0 := 0) (e := 0) (n := 361) (w := (hf_up ψ135 194 ((112 + z134).toNat) (z135 + 1)) 194 2) 194 rfl (by decide +kernel) (by decide) (by decide) (by decide) rfl ?_
                obtain ⟨hz200, ht200, hf200⟩ := H
                refine hw_if (a0 := 0) (b := 5) (e := 156) (by decide +kernel) hz200 (fun q => ?_) (fun q => ?_)
                · have H := ht200 q
                  refine hw_ld (b := 1) (e := 0) (by decide +kernel) (get_st1 (get_st1 get_st1e (by decide) (fun q => tg0 q.2)) (by decide) (fun q => absurd q.1 (by decide))) ?_
                  refine hw_k (c := 2) (b := 0) (e := 1) (by decide +kernel) ?_
                  obtain ⟨hz201, hy201, ht201, hf201⟩ := H
                  refine hw_if2 (a0 := 0) (b := 1) (e := 172) (by decide +kernel) hz201 hy201 (fun q => ?_) (fun q => ?_)
                  · have H := ht201 q
                    exact hw_vret (a0 := 0) (e := 0) (by decide +kernel) H
                  · have H := hf201 q
                    refine hw_ald (b := 0) (e := 0) (by decide +kernel) (get_st1 (get_st1 (get_st1 rfl (by decide) (fun q => tg2 q.2)) (by decide) (fun q => absurd q.1 (by decide))) (by decide) (fun q => absurd q.1 (by decide))) (by decide) ?_
                    refine hr_call (a0 := 22) (b := 222) (e := 1) (nl := 1) (As := []) (R := []) 192 rfl (by decide +kernel) rfl rfl (Nat.le_of_ble_eq_true rfl) (Nat.le_of_ble_eq_true rfl) ?_
                    refine hw_mono H ?_
                    rintro r ψ203 y203 ⟨hyx, hψx, z203, hr, H⟩
                    subst hyx
                    subst hψx
                    subst hr
                    refine ⟨hne0, ?_⟩
                    show hw sc (d + 2) 256 165 (jm_st1 (jm_st1 (jm_st1 [(0, (2, 192))] 1 (0, z1)) 2 (0, z134)) 3 (0, z135)) [(0, z203)] (hf_up ψ135 194 ((112 + z134).toNat) (z135 + 1)) y203 Q
                    obtain ⟨hz204, ht204, hf204⟩ := H
                    refine hw_if (a0 := 0) (b := 1) (e := 172) (by decide +kernel) hz204 (fun q => ?_) (fun q => ?_)
                    · have H := ht204 q
                      exact hw_vret (a0 := 0) (e := 0) (by decide +kernel) H
                    · have H := hf204 q
                      refine hw_ald (b := 0) (e := 0) (by decide +kernel) (get_st1 (get_st1 (get_st1 rfl (by decide) (fun q => tg2 q.2)) (by decide) (fun q => absurd q.1 (by decide))) (by decide) (fun q => absurd q.1 (by decide))) (by decide) ?_
                      refine hr_call (a0 := 22) (b := 223) (e := 1) (nl := 2) (As := []) (R := []) 192 rfl (by decide +kernel) rfl rfl (Nat.le_of_ble_eq_true rfl) (Nat.le_of_ble_eq_true rfl) ?_
                      refine hw_mono H ?_
                      rintro r ψ206 y206 ⟨hyx, hr, H⟩
                      subst hyx
                      subst hr
                      refine ⟨hnen, ?_⟩
                      show hw sc (d + 2) 256 172 (jm_st1 (jm_st1 (jm_st1 [(0, (2, 192))] 1 (0, z1)) 2 (0, z134)) 3 (0, z135)) [] ψ206 y206 Q
                      exact hw_vret (a0 := 0) (e := 0) (by decide +kernel) H
                · have H := hf200 q
                  refine hw_ald (b := 0) (e := 0) (by decide +kernel) (get_st1 (get_st1 (get_st1 rfl (by decide) (fun q => tg2 q.2)) (by decide) (fun q => absurd q.1 (by decide))) (by decide) (fun q => absurd q.1 (by decide))) (by decide) ?_
                  refine hw_ald (b := 0) (e := 0) (by decide +kernel) (get_st1 (get_st1 (get_st1 rfl (by decide) (fun q => tg2 q.2)) (by decide) (fun q => absurd q.1 (by decide))) (by decide) (fun q => absurd q.1 (by decide))) (by decide) ?_
                  refine hr_gr (w := 194) (b := 12) (e := 6) 192 rfl (by decide +kernel) ?_
                  refine hw_k (c := 3) (b := 0) (e := 1) (by decide +kernel) ?_
                  refine hr_al (b := 0) (a0 := 0) (e := 0) (n := 361) (w := (hf_up ψ135 194 ((112 + z134).toNat) (z135 + 1)) 194 3) 194 rfl (by decide +kernel) (by decide) (by decide) (by decide) rfl ?_
                  refine hr_call (a0 := 22) (b := 257) (e := 2) (nl := 2) (As := [(0, (hf_up ψ135 194 ((112 + z134).toNat) (z135 + 1)) 194 3)]) (R := []) 192 rfl (by decide +kernel) rfl rfl (Nat.le_of_ble_eq_true rfl) (Nat.le_of_ble_eq_true rfl) ?_
                  refine hw_mono H ?_
                  rintro r ψ208 y208 ⟨hyx, z208, hr, H⟩
                  subst hyx
                  subst hr
                  refine ⟨hne0, ?_⟩
                  show hw sc (d + 2) 256 130 (jm_st1 (jm_st1 (jm_st1 [(0, (2, 192))] 1 (0, z1)) 2 (0, z134)) 3 (0, z135)) [(0, z208)] ψ208 y208 Q
                  refine hw_st (L' := (jm_st1 (jm_st1 (jm_st1 (jm_st1 [(0, (2, 192))] 1 (0, z1)) 2 (0, z134)) 3 (0, z135)) 2 (0, z208))) (b := 2) (e := 0) (by decide +kernel) rfl ?_
                  refine hw_ald (b := 0) (e := 0) (by decide +kernel) (get_st1 (get_st1 (get_st1 (get_st1 rfl (by decide) (fun q => tg2 q.2)) (by decide) (fun q => absurd q.1 (by decide))) (by decide) (fun q => absurd q.1 (by decide))) (by decide) (fun q => absurd q.1 (by decide))) (by decide) ?_
                  refine hw_ald (b := 0) (e := 0) (by decide +kernel) (get_st1 (get_st1 (get_st1 (get_st1 rfl (by decide) (fun q => tg2 q.2)) (by decide) (fun q => absurd q.1 (by decide))) (by decide) (fun q => absurd q.1 (by decide))) (by decide) (fun q => absurd q.1 (by decide))) (by decide) ?_
                  refine hr_gr (w := 194) (b := 12) (e := 6) 192 rfl (by decide +kernel) ?_
                  refine hw_k (c := 2) (b := 0) (e := 1) (by decide +kernel) ?_
                  refine hr_al (b := 0) (a0 := 0) (e := 0) (n := 361) (w := ψ208 194 2) 194 rfl (by decide +kernel) (by decide) (by decide) (by decide) rfl ?_
                  refine hr_call (a0 := 22) (b := 257) (e := 2) (nl := 2) (As := [(0, ψ208 194 2)]) (R := []) 192 rfl (by decide +kernel) rfl rfl (Nat.le_of_ble_eq_true rfl) (Nat.le_of_ble_eq_true rfl) ?_
                  refine hw_mono H ?_
                  rintro r ψ209 y209 ⟨hyx, z209, hr, H⟩
                  subst hyx
                  subst hr
                  refine ⟨hne0, ?_⟩
                  show hw sc (d + 2) 256 141 (jm_st1 (jm_st1 (jm_st1 (jm_st1 [(0, (2, 192))] 1 (0, z1)) 2 (0, z134)) 3 (0, z135)) 2 (0, z208)) [(0, z209)] ψ209 y209 Q
                  refine hw_st (L' := (jm_st1 (jm_st1 (jm_st1 (jm_st1 (jm_st1 [(0, (2, 192))] 1 (0, z1)) 2 (0, z134)) 3 (0, z135)) 2 (0, z208)) 3 (0, z209))) (b := 3) (e := 0) (by decide +kernel) rfl ?_
                  refine hw_ald (b := 0) (e := 0) (by decide +kernel) (get_st1 (get_st1 (get_st1 (get_st1 (get_st1 rfl (by decide) (fun q => tg2 q.2)) (by decide) (fun q => absurd q.1 (by decide))) (by decide) (fun q => absurd q.1 (by decide))) (by decide) (fun q => absurd q.1 (by decide))) (by decide) (fun q => absurd q.1 (by decide))) (by decide) ?_
                  refine hw_ld (b := 2) (e := 0) (by decide +kernel) (get_st1 get_st1e (by decide) (fun q => tg0 q.2)) ?_
                  refine hr_call (a0 := 22) (b := 219) (e := 2) (nl := 2) (As := [(0, z208)]) (R := []) 192 rfl (by decide +kernel) rfl rfl (Nat.le_of_ble_eq_true rfl) (Nat.le_of_ble_eq_true rfl) ?_
                  refine hw_mono H ?_
                  rintro r ψ210 y210 ⟨hyx, hψx, z210, hr, H⟩
                  subst hyx
                  subst hψx
                  subst hr
                  refine ⟨hne0, ?_⟩
                  show hw sc (d + 2) 256 147 (jm_st1 (jm_st1 (jm_st1 (jm_st1 (jm_st1 [(0, (2, 192))] 1 (0, z1)) 2 (0, z134)) 3 (0, z135)) 2 (0, z208)) 3 (0, z209)) [(0, z210)] ψ209 y210 Q
                  obtain ⟨hz211, ht211, hf211⟩ := H
                  refine hw_if (a0 := 0) (b := 1) (e := 156) (by decide +kernel) hz211 (fun q => ?_) (fun q => ?_)
                  · have H := ht211 q
                    refine hw_ld (b := 1) (e := 0) (by decide +kernel) (get_st1 (get_st1 (get_st1 (get_st1 get_st1e (by decide) (fun q => tg0 q.2)) (by decide) (fun q => absurd q.1 (by decide))) (by decide) (fun q => tg0 q.2)) (by decide) (fun q => absurd q.1 (by decide))) ?_
                    refine hw_k (c := 2) (b := 0) (e := 1) (by decide +kernel) ?_
                    obtain ⟨hz212, hy212, ht212, hf212⟩ := H
                    refine hw_if2 (a0 := 0) (b := 1) (e := 172) (by decide +kernel) hz212 hy212 (fun q => ?_) (fun q => ?_)
                    · have H := ht212 q
                      exact hw_vret (a0 := 0) (e := 0) (by decide +kernel) H
                    · have H := hf212 q
                      refine hw_ald (b := 0) (e := 0) (by decide +kernel) (get_st1 (get_st1 (get_st1 (get_st1 (get_st1 rfl (by decide) (fun q => tg2 q.2)) (by decide) (fun q => absurd q.1 (by decide))) (by decide) (fun q => absurd q.1 (by decide))) (by decide) (fun q => absurd q.1 (by decide))) (by decide) (fun q => absurd q.1 (by decide))) (by decide) ?_
                      refine hr_call (a0 := 22) (b := 222) (e := 1) (nl := 1) (As := []) (R := []) 192 rfl (by decide +kernel) rfl rfl (Nat.le_of_ble_eq_true rfl) (Nat.le_of_ble_eq_true rfl) ?_
                      refine hw_mono H ?_
                      rintro r ψ214 y214 ⟨hyx, hψx, z214, hr, H⟩
                      subst hyx
                      subst hψx
                      subst hr
                      refine ⟨hne0, ?_⟩
                      show hw sc (d + 2) 256 165 (jm_st1 (jm_st1 (jm_st1 (jm_st1 (jm_st1 [(0, (2, 192))] 1 (0, z1)) 2 (0, z134)) 3 (0, z135)) 2 (0, z208)) 3 (0, z209)) [(0, z214)] ψ209 y214 Q
                      obtain ⟨hz215, ht215, hf215⟩ := H
                      refine hw_if (a0 := 0) (b := 1) (e := 172) (by decide +kernel) hz215 (fun q => ?_) (fun q => ?_)
                      · have H := ht215 q
                        exact hw_vret (a0 := 0) (e := 0) (by decide +kernel) H
                      · have H := hf215 q
                        refine hw_ald (b := 0) (e := 0) (by decide +kernel) (get_st1 (get_st1 (get_st1 (get_st1 (get_st1 rfl (by decide) (fun q => tg2 q.2)) (by decide) (fun q => absurd q.1 (by decide))) (by decide) (fun q => absurd q.1 (by decide))) (by decide) (fun q => absurd q.1 (by decide))) (by decide) (fun q => absurd q.1 (by decide))) (by decide) ?_
                        refine hr_call (a0 := 22) (b := 223) (e := 1) (nl := 2) (As := []) (R := []) 192 rfl (by decide +kernel) rfl rfl (Nat.le_of_ble_eq_true rfl) (Nat.le_of_ble_eq_true rfl) ?_
                        refine hw_mono H ?_
                        rintro r ψ217 y217 ⟨hyx, hr, H⟩
                        subst hyx
                        subst hr
                        refine ⟨hnen, ?_⟩
                        show hw sc (d + 2) 256 172 (jm_st1 (jm_st1 (jm_st1 (jm_st1 (jm_st1 [(0, (2, 192))] 1 (0, z1)) 2 (0, z134)) 3 (0, z135)) 2 (0, z208)) 3 (0, z209)) [] ψ217 y217 Q
                        exact hw_vret (a0 := 0) (e := 0) (by decide +kernel) H
                  · have H := hf211 q
                    refine hw_ald (b := 0) (e := 0) (by decide +kernel) (get_st1 (get_st1 (get_st1 (get_st1 (get_st1 rfl (by decide) (fun q => tg2 q.2)) (by decide) (fun q => absurd q.1 (by decide))) (by decide) (fun q => absurd q.1 (by decide))) (by decide) (fun q => absurd q.1 (by decide))) (by decide) (fun q => absurd q.1 (by decide))) (by decide) ?_
                    refine hw_ld (b := 2) (e := 0) (by decide +kernel) (get_st1 get_st1e (by decide) (fun q => tg0 q.2)) ?_
                    refine hw_ld (b := 3) (e := 0) (by decide +kernel) get_st1e ?_
                    refine hr_call (a0 := 22) (b := 220) (e := 3) (nl := 3) (As := [(0, z208), (0, z209)]) (R := []) 192 rfl (by decide +kernel) rfl rfl (Nat.le_of_ble_eq_true rfl) (Nat.le_of_ble_eq_true rfl) ?_
                    refine hw_mono H ?_
                    rintro r ψ219 y219 ⟨hyx, hr, H⟩
                    subst hyx
                    subst hr
                    refine ⟨hnen, ?_⟩
                    show hw sc (d + 2) 256 156 (jm_st1 (jm_st1 (jm_st1 (jm_st1 (jm_st1 [(0, (2, 192))] 1 (0, z1)) 2 (0, z134)) 3 (0, z135)) 2 (0, z208)) 3 (0, z209)) [] ψ219 y219 Q
                    refine hw_ld (b := 1) (e := 0) (by decide +kernel) (get_st1 (get_st1 (get_st1 (get_st1 get_st1e (by decide) (fun q => tg0 q.2)) (by decide) (fun q => absurd q.1 (by decide))) (by decide) (fun q => tg0 q.2)) (by decide) (fun q => absurd q.1 (by decide))) ?_
                    refine hw_k (c := 2) (b := 0) (e := 1) (by decide +kernel) ?_
                    obtain ⟨hz220, hy220, ht220, hf220⟩ := H
                    refine hw_if2 (a0 := 0) (b := 1) (e := 172) (by decide +kernel) hz220 hy220 (fun q => ?_) (fun q => ?_)
                    · have H := ht220 q
                      exact hw_vret (a0 := 0) (e := 0) (by decide +kernel) H
                    · have H := hf220 q
                      refine hw_ald (b := 0) (e := 0) (by decide +kernel) (get_st1 (get_st1 (get_st1 (get_st1 (get_st1 rfl (by decide) (fun q => tg2 q.2)) (by decide) (fun q => absurd q.1 (by decide))) (by decide) (fun q => absurd q.1 (by decide))) (by decide) (fun q => absurd q.1 (by decide))) (by decide) (fun q => absurd q.1 (by decide))) (by decide) ?_
                      refine hr_call (a0 := 22) (b := 222) (e := 1) (nl := 1) (As := []) (R := []) 192 rfl (by decide +kernel) rfl rfl (Nat.le_of_ble_eq_true rfl) (Nat.le_of_ble_eq_true rfl) ?_
                      refine hw_mono H ?_
                      rintro r ψ222 y222 ⟨hyx, hψx, z222, hr, H⟩
                      subst hyx
                      subst hψx
                      subst hr
                      refine ⟨hne0, ?_⟩
                      show hw sc (d + 2) 256 165 (jm_st1 (jm_st1 (jm_st1 (jm_st1 (jm_st1 [(0, (2, 192))] 1 (0, z1)) 2 (0, z134)) 3 (0, z135)) 2 (0, z208)) 3 (0, z209)) [(0, z222)] ψ219 y222 Q
                      obtain ⟨hz223, ht223, hf223⟩ := H
                      refine hw_if (a0 := 0) (b := 1) (e := 172) (by decide +kernel) hz223 (fun q => ?_) (fun q => ?_)
                      · have H := ht223 q
                        exact hw_vret (a0 := 0) (e := 0) (by decide +kernel) H
                      · have H := hf223 q
                        refine hw_ald (b := 0) (e := 0) (by decide +kernel) (get_st1 (get_st1 (get_st1 (get_st1 (get_st1 rfl (by decide) (fun q => tg2 q.2)) (by decide) (fun q => absurd q.1 (by decide))) (by decide) (fun q => absurd q.1 (by decide))) (by decide) (fun q => absurd q.1 (by decide))) (by decide) (fun q => absurd q.1 (by decide))) (by decide) ?_
                        refine hr_call (a0 := 22) (b := 223) (e := 1) (nl := 2) (As := []) (R := []) 192 rfl (by decide +kernel) rfl rfl (Nat.le_of_ble_eq_true rfl) (Nat.le_of_ble_eq_true rfl) ?_
                        refine hw_mono H ?_
                        rintro r ψ225 y225 ⟨hyx, hr, H⟩
                        subst hyx
                        subst hr
                        refine ⟨hnen, ?_⟩
                        show hw sc (d + 2) 256 172 (jm_st1 (jm_st1 (jm_st1 (jm_st1 (jm_st1 [(0, (2, 192))] 1 (0, z1)) 2 (0, z134)) 3 (0, z135)) 2 (0, z208)) 3 (0, z209)) [] ψ225 y225 Q
                        exact hw_vret (a0 := 0) (e := 0) (by decide +kernel) H
        · have H := hf137 q
          refine hw_ald (b := 0) (e := 0) (by decide +kernel) (get_st1 (get_st1 (get_st1 rfl (by decide) (fun q => tg2 q.2)) (by decide) (fun q => absurd q.1 (by decide))) (by decide) (fun q => absurd q.1 (by decide))) (by decide) ?_
          refine hr_gr (w := 194) (b := 12) (e := 6) 192 rfl (by decide +kernel) ?_
          refine hw_k (c := 112) (b := 1) (e := 2) (by decide +kernel) ?_
          refine hw_ld (b := 2) (e := 0) (by decide +kernel) (get_st1 get_st1e (by decide) (fun q => tg0 q.2)) ?_
          refine hw_bin (w := 112 + z134) (a0 := 0) (b := 0) (e := 0) (by decide +kernel) rfl ?_
          refine hw_k (c := 0) (b := 0) (e := 1) (by decide +kernel) ?_
          obtain ⟨hl227, hu227, H⟩ := H
          refine hr_as (a0 := 0) (e := 4) (n := 361) 194 rfl (by decide +kernel) hl227 hu227 ?_
          refine hw_goto (a0 := 0) (b := 0) (e := 97) (by decide +kernel) ?_
          refine hw_ld (b := 1) (e := 0) (by decide +kernel) (get_st1 (get_st1 get_st1e (by decide) (fun q => tg0 q.2)) (by decide) (fun q => absurd q.1 (by decide))) ?_
          refine hw_k (c := 1) (b := 0) (e := 1) (by decide +kernel) ?_
          obtain ⟨hz228, hy228, ht228, hf228⟩ := H
          refine hw_if2 (a0 := 0) (b := 1) (e := 156) (by decide +kernel) hz228 hy228 (fun q => ?_) (fun q => ?_)
          · have H := ht228 q
            refine hw_ld (b := 1) (e := 0) (by decide +kernel) (get_st1 (get_st1 get_st1e (by decide) (fun q => tg0 q.2)) (by decide) (fun q => absurd q.1 (by decide))) ?_
            refine hw_k (c := 2) (b := 0) (e := 1) (by decide +kernel) ?_
            obtain ⟨hz229, hy229, ht229, hf229⟩ := H
            refine hw_if2 (a0 := 0) (b := 1) (e := 172) (by decide +kernel) hz229 hy229 (fun q => ?_) (fun q => ?_)
            · have H := ht229 q
              exact hw_vret (a0 := 0) (e := 0) (by decide +kernel) H
            · have H := hf229 q
              refine hw_ald (b := 0) (e := 0) (by decide +kernel) (get_st1 (get_st1 (get_st1 rfl (by decide) (fun q => tg2 q.2)) (by decide) (fun q => absurd q.1 (by decide))) (by decide) (fun q => absurd q.1 (by decide))) (by decide) ?_
              refine hr_call (a0 := 22) (b := 222) (e := 1) (nl := 1) (As := []) (R := []) 192 rfl (by decide +kernel) rfl rfl (Nat.le_of_ble_eq_true rfl) (Nat.le_of_ble_eq_true rfl) ?_
              refine hw_mono H ?_
              rintro r ψ231 y231 ⟨hyx, hψx, z231, hr, H⟩
              subst hyx
              subst hψx
              subst hr
              refine ⟨hne0, ?_⟩
              show hw sc (d + 2) 256 165 (jm_st1 (jm_st1 (jm_st1 [(0, (2, 192))] 1 (0, z1)) 2 (0, z134)) 3 (0, z135)) [(0, z231)] (hf_up ψ135 194 ((112 + z134).toNat) 0) y231 Q
              obtain ⟨hz232, ht232, hf232⟩ := H
              refine hw_if (a0 := 0) (b := 1) (e := 172) (by decide +kernel) hz232 (fun q => ?_) (fun q => ?_)
              · have H := ht232 q
                exact hw_vret (a0 := 0) (e := 0) (by decide +kernel) H
              · have H := hf232 q
                refine hw_ald (b := 0) (e := 0) (by decide +kernel) (get_st1 (get_st1 (get_st1 rfl (by decide) (fun q => tg2 q.2)) (by decide) (fun q => absurd q.1 (by decide))) (by decide) (fun q => absurd q.1 (by decide))) (by decide) ?_
                refine hr_call (a0 := 22) (b := 223) (e := 1) (nl := 2) (As := []) (R := []) 192 rfl (by decide +kernel) rfl rfl (Nat.le_of_ble_eq_true rfl) (Nat.le_of_ble_eq_true rfl) ?_
                refine hw_mono H ?_
                rintro r ψ234 y234 ⟨hyx, hr, H⟩
                subst hyx
                subst hr
                refine ⟨hnen, ?_⟩
                show hw sc (d + 2) 256 172 (jm_st1 (jm_st1 (jm_st1 [(0, (2, 192))] 1 (0, z1)) 2 (0, z134)) 3 (0, z135)) [] ψ234 y234 Q
                exact hw_vret (a0 := 0) (e := 0) (by decide +kernel) H
          · have H := hf228 q
            refine hw_ald (b := 0) (e := 0) (by decide +kernel) (get_st1 (get_st1 (get_st1 rfl (by decide) (fun q => tg2 q.2)) (by decide) (fun q => absurd q.1 (by decide))) (by decide) (fun q => absurd q.1 (by decide))) (by decide) ?_
            refine hr_gr (w := 194) (b := 12) (e := 6) 192 rfl (by decide +kernel) ?_
            refine hw_k (c := 3) (b := 0) (e := 1) (by decide +kernel) ?_
            refine hr_al (b := 0) (a0 := 0) (e := 0) (n := 361) (w := (hf_up ψ135 194 ((112 + z134).toNat) 0) 194 3) 194 rfl (by decide +kernel) (by decide) (by decide) (by decide) rfl ?_
            obtain ⟨hz236, ht236, hf236⟩ := H
            refine hw_if (a0 := 0) (b := 5) (e := 156) (by decide +kernel) hz236 (fun q => ?_) (fun q => ?_)
            · have H := ht236 q
              refine hw_ld (b := 1) (e := 0) (by decide +kernel) (get_st1 (get_st1 get_st1e (by decide) (fun q => tg0 q.2)) (by decide) (fun q => absurd q.1 (by decide))) ?_
              refine hw_k (c := 2) (b := 0) (e := 1) (by decide +kernel) ?_
              obtain ⟨hz237, hy237, ht237, hf237⟩ := H
              refine hw_if2 (a0 := 0) (b := 1) (e := 172) (by decide +kernel) hz237 hy237 (fun q => ?_) (fun q => ?_)
              · have H := ht237 q
                exact hw_vret (a0 := 0) (e := 0) (by decide +kernel) H
              · have H := hf237 q
                refine hw_ald (b := 0) (e := 0) (by decide +kernel) (get_st1 (get_st1 (get_st1 rfl (by decide) (fun q => tg2 q.2)) (by decide) (fun q => absurd q.1 (by decide))) (by decide) (fun q => absurd q.1 (by decide))) (by decide) ?_
                refine hr_call (a0 := 22) (b := 222) (e := 1) (nl := 1) (As := []) (R := []) 192 rfl (by decide +kernel) rfl rfl (Nat.le_of_ble_eq_true rfl) (Nat.le_of_ble_eq_true rfl) ?_
                refine hw_mono H ?_
                rintro r ψ239 y239 ⟨hyx, hψx, z239, hr, H⟩
                subst hyx
                subst hψx
                subst hr
                refine ⟨hne0, ?_⟩
                show hw sc (d + 2) 256 165 (jm_st1 (jm_st1 (jm_st1 [(0, (2, 192))] 1 (0, z1)) 2 (0, z134)) 3 (0, z135)) [(0, z239)] (hf_up ψ135 194 ((112 + z134).toNat) 0) y239 Q
                obtain ⟨hz240, ht240, hf240⟩ := H
                refine hw_if (a0 := 0) (b := 1) (e := 172) (by decide +kernel) hz240 (fun q => ?_) (fun q => ?_)
                · have H := ht240 q
                  exact hw_vret (a0 := 0) (e := 0) (by decide +kernel) H
                · have H := hf240 q
                  refine hw_ald (b := 0) (e := 0) (by decide +kernel) (get_st1 (get_st1 (get_st1 rfl (by decide) (fun q => tg2 q.2)) (by decide) (fun q => absurd q.1 (by decide))) (by decide) (fun q => absurd q.1 (by decide))) (by decide) ?_
                  refine hr_call (a0 := 22) (b := 223) (e := 1) (nl := 2) (As := []) (R := []) 192 rfl (by decide +kernel) rfl rfl (Nat.le_of_ble_eq_true rfl) (Nat.le_of_ble_eq_true rfl) ?_
                  refine hw_mono H ?_
                  rintro r ψ242 y242 ⟨hyx, hr, H⟩
                  subst hyx
                  subst hr
                  refine ⟨hnen, ?_⟩
                  show hw sc (d + 2) 256 172 (jm_st1 (jm_st1 (jm_st1 [(0, (2, 192))] 1 (0, z1)) 2 (0, z134)) 3 (0, z135)) [] ψ242 y242 Q
                  exact hw_vret (a0 := 0) (e := 0) (by decide +kernel) H
            · have H := hf236 q
              refine hw_ald (b := 0) (e := 0) (by decide +kernel) (get_st1 (get_st1 (get_st1 rfl (by decide) (fun q => tg2 q.2)) (by decide) (fun q => absurd q.1 (by decide))) (by decide) (fun q => absurd q.1 (by decide))) (by decide) ?_
              refine hr_gr (w := 194) (b := 12) (e := 6) 192 rfl (by decide +kernel) ?_
              refine hw_k (c := 2) (b := 0) (e := 1) (by decide +kernel) ?_
              refine hr_al (b := 0) (a0 := 0) (e := 0) (n := 361) (w := (hf_up ψ135 194 ((112 + z134).toNat) 0) 194 2) 194 rfl (by decide +kernel) (by decide) (by decide) (by decide) rfl ?_
              obtain ⟨hz244, ht244, hf244⟩ := H
              refine hw_if (a0 := 0) (b := 5) (e := 156) (by decide +kernel) hz244 (fun q => ?_) (fun q => ?_)
              · have H := ht244 q
                refine hw_ld (b := 1) (e := 0) (by decide +kernel) (get_st1 (get_st1 get_st1e (by decide) (fun q => tg0 q.2)) (by decide) (fun q => absurd q.1 (by decide))) ?_
                refine hw_k (c := 2) (b := 0) (e := 1) (by decide +kernel) ?_
                obtain ⟨hz245, hy245, ht245, hf245⟩ := H
                refine hw_if2 (a0 := 0) (b := 1) (e := 172) (by decide +kernel) hz245 hy245 (fun q => ?_) (fun q => ?_)
                · have H := ht245 q
                  exact hw_vret (a0 := 0) (e := 0) (by decide +kernel) H
                · have H := hf245 q
                  refine hw_ald (b := 0) (e := 0) (by decide +kernel) (get_st1 (get_st1 (get_st1 rfl (by decide) (fun q => tg2 q.2)) (by decide) (fun q => absurd q.1 (by decide))) (by decide) (fun q => absurd q.1 (by decide))) (by decide) ?_
                  refine hr_call (a0 := 22) (b := 222) (e := 1) (nl := 1) (As := []) (R := []) 192 rfl (by decide +kernel) rfl rfl (Nat.le_of_ble_eq_true rfl) (Nat.le_of_ble_eq_true rfl) ?_
                  refine hw_mono H ?_
                  rintro r ψ247 y247 ⟨hyx, hψx, z247, hr, H⟩
                  subst hyx
                  subst hψx
                  subst hr
                  refine ⟨hne0, ?_⟩
                  show hw sc (d + 2) 256 165 (jm_st1 (jm_st1 (jm_st1 [(0, (2, 192))] 1 (0, z1)) 2 (0, z134)) 3 (0, z135)) [(0, z247)] (hf_up ψ135 194 ((112 + z134).toNat) 0) y247 Q
                  obtain ⟨hz248, ht248, hf248⟩ := H
                  refine hw_if (a0 := 0) (b := 1) (e := 172) (by decide +kernel) hz248 (fun q => ?_) (fun q => ?_)
                  · have H := ht248 q
                    exact hw_vret (a0 := 0) (e := 0) (by decide +kernel) H
                  · have H := hf248 q
                    refine hw_ald (b := 0) (e := 0) (by decide +kernel) (get_st1 (get_st1 (get_st1 rfl (by decide) (fun q => tg2 q.2)) (by decide) (fun q => absurd q.1 (by decide))) (by decide) (fun q => absurd q.1 (by decide))) (by decide) ?_
                    refine hr_call (a0 := 22) (b := 223) (e := 1) (nl := 2) (As := []) (R := []) 192 rfl (by decide +kernel) rfl rfl (Nat.le_of_ble_eq_true rfl) (Nat.le_of_ble_eq_true rfl) ?_
                    refine hw_mono H ?_
                    rintro r ψ250 y250 ⟨hyx, hr, H⟩
                    subst hyx
                    subst hr
                    refine ⟨hnen, ?_⟩
                    show hw sc (d + 2) 256 172 (jm_st1 (jm_st1 (jm_st1 [(0, (2, 192))] 1 (0, z1)) 2 (0, z134)) 3 (0, z135)) [] ψ250 y250 Q
                    exact hw_vret (a0 := 0) (e := 0) (by decide +kernel) H
              · have H := hf244 q
                refine hw_ald (b := 0) (e := 0) (by decide +kernel) (get_st1 (get_st1 (get_st1 rfl (by decide) (fun q => tg2 q.2)) (by decide) (fun q => absurd q.1 (by decide))) (by decide) (fun q => absurd q.1 (by decide))) (by decide) ?_
                refine hw_ald (b := 0) (e := 0) (by decide +kernel) (get_st1 (get_st1 (get_st1 rfl (by decide) (fun q => tg2 q.2)) (by decide) (fun q => absurd q.1 (by decide))) (by decide) (fun q => absurd q.1 (by decide))) (by decide) ?_
                refine hr_gr (w := 194) (b := 12) (e := 6) 192 rfl (by decide +kernel) ?_
                refine hw_k (c := 3) (b := 0) (e := 1) (by decide +kernel) ?_
                refine hr_al (b := 0) (a0 := 0) (e := 0) (n := 361) (w := (hf_up ψ135 194 ((112 + z134).toNat) 0) 194 3) 194 rfl (by decide +kernel) (by decide) (by decide) (by decide) rfl ?_
                refine hr_call (a0 := 22) (b := 257) (e := 2) (nl := 2) (As := [(0, (hf_up ψ135 194 ((112 + z134).toNat) 0) 194 3)]) (R := []) 192 rfl (by decide +kernel) rfl rfl (Nat.le_of_ble_eq_true rfl) (Nat.le_of_ble_eq_true rfl) ?_
                refine hw_mono H ?_
                rintro r ψ252 y252 ⟨hyx, z252, hr, H⟩
                subst hyx
                subst hr
                refine ⟨hne0, ?_⟩
                show hw sc (d + 2) 256 130 (jm_st1 (jm_st1 (jm_st1 [(0, (2, 192))] 1 (0, z1)) 2 (0, z134)) 3 (0, z135)) [(0, z252)] ψ252 y252 Q
                refine hw_st (L' := (jm_st1 (jm_st1 (jm_st1 (jm_st1 [(0, (2, 192))] 1 (0, z1)) 2 (0, z134)) 3 (0, z135)) 2 (0, z252))) (b := 2) (e := 0) (by decide +kernel) rfl ?_
                refine hw_ald (b := 0) (e := 0) (by decide +kernel) (get_st1 (get_st1 (get_st1 (get_st1 rfl (by decide) (fun q => tg2 q.2)) (by decide) (fun q => absurd q.1 (by decide))) (by decide) (fun q => absurd q.1 (by decide))) (by decide) (fun q => absurd q.1 (by decide))) (by decide) ?_
                refine hw_ald (b := 0) (e := 0) (by decide +kernel) (get_st1 (get_st1 (get_st1 (get_st1 rfl (by decide) (fun q => tg2 q.2)) (by decide) (fun q => absurd q.1 (by decide))) (by decide) (fun q => absurd q.1 (by decide))) (by decide) (fun q => absurd q.1 (by decide))) (by decide) ?_
                refine hr_gr (w := 194) (b := 12) (e := 6) 192 rfl (by decide +kernel) ?_
                refine hw_k (c := 2) (b := 0) (e := 1) (by decide +kernel) ?_
                refine hr_al (b := 0) (a0 := 0) (e := 0) (n := 361) (w := ψ252 194 2) 194 rfl (by decide +kernel) (by decide) (by decide) (by decide) rfl ?_
                refine hr_call (a0 := 22) (b := 257) (e := 2) (nl := 2) (As := [(0, ψ252 194 2)]) (R := []) 192 rfl (by decide +kernel) rfl rfl (Nat.le_of_ble_eq_true rfl) (Nat.le_of_ble_eq_true rfl) ?_
                refine hw_mono H ?_
                rintro r ψ253 y253 ⟨hyx, z253, hr, H⟩
                subst hyx
                subst hr
                refine ⟨hne0, ?_⟩
                show hw sc (d + 2) 256 141 (jm_st1 (jm_st1 (jm_st1 (jm_st1 [(0, (2, 192))] 1 (0, z1)) 2 (0, z134)) 3 (0, z135)) 2 (0, z252)) [(0, z253)] ψ253 y253 Q
                refine hw_st (L' := (jm_st1 (jm_st1 (jm_st1 (jm_st1 (jm_st1 [(0, (2, 192))] 1 (0, z1)) 2 (0, z134)) 3 (0, z135)) 2 (0, z252)) 3 (0, z253))) (b := 3) (e := 0) (by decide +kernel) rfl ?_
                refine hw_ald (b := 0) (e := 0) (by decide +kernel) (get_st1 (get_st1 (get_st1 (get_st1 (get_st1 rfl (by decide) (fun q => tg2 q.2)) (by decide) (fun q => absurd q.1 (by decide))) (by decide) (fun q => absurd q.1 (by decide))) (by decide) (fun q => absurd q.1 (by decide))) (by decide) (fun q => absurd q.1 (by decide))) (by decide) ?_
                refine hw_ld (b := 2) (e := 0) (by decide +kernel) (get_st1 get_st1e (by decide) (fun q => tg0 q.2)) ?_
                refine hr_call (a0 := 22) (b := 219) (e := 2) (nl := 2) (As := [(0, z252)]) (R := []) 192 rfl (by decide +kernel) rfl rfl (Nat.le_of_ble_eq_true rfl) (Nat.le_of_ble_eq_true rfl) ?_
                refine hw_mono H ?_
                rintro r ψ254 y254 ⟨hyx, hψx, z254, hr, H⟩
                subst hyx
                subst hψx
                subst hr
                refine ⟨hne0, ?_⟩
                show hw sc (d + 2) 256 147 (jm_st1 (jm_st1 (jm_st1 (jm_st1 (jm_st1 [(0, (2, 192))] 1 (0, z1)) 2 (0, z134)) 3 (0, z135)) 2 (0, z252)) 3 (0, z253)) [(0, z254)] ψ253 y254 Q
                obtain ⟨hz255, ht255, hf255⟩ := H
                refine hw_if (a0 := 0) (b := 1) (e := 156) (by decide +kernel) hz255 (fun q => ?_) (fun q => ?_)
                · have H := ht255 q
                  refine hw_ld (b := 1) (e := 0) (by decide +kernel) (get_st1 (get_st1 (get_st1 (get_st1 get_st1e (by decide) (fun q => tg0 q.2)) (by decide) (fun q => absurd q.1 (by decide))) (by decide) (fun q => tg0 q.2)) (by decide) (fun q => absurd q.1 (by decide))) ?_
                  refine hw_k (c := 2) (b := 0) (e := 1) (by decide +kernel) ?_
                  obtain ⟨hz256, hy256, ht256, hf256⟩ := H
                  refine hw_if2 (a0 := 0) (b := 1) (e := 172) (by decide +kernel) hz256 hy256 (fun q => ?_) (fun q => ?_)
                  · have H := ht256 q
                    exact hw_vret (a0 := 0) (e := 0) (by decide +kernel) H
                  · have H := hf256 q
                    refine hw_ald (b := 0) (e := 0) (by decide +kernel) (get_st1 (get_st1 (get_st1 (get_st1 (get_st1 rfl (by decide) (fun q => tg2 q.2)) (by decide) (fun q => absurd q.1 (by decide))) (by decide) (fun q => absurd q.1 (by decide))) (by decide) (fun q => absurd q.1 (by decide))) (by decide) (fun q => absurd q.1 (by decide))) (by decide) ?_
                    refine hr_call (a0 := 22) (b := 222) (e := 1) (nl := 1) (As := []) (R := []) 192 rfl (by decide +kernel) rfl rfl (Nat.le_of_ble_eq_true rfl) (Nat.le_of_ble_eq_true rfl) ?_
                    refine hw_mono H ?_
                    rintro r ψ258 y258 ⟨hyx, hψx, z258, hr, H⟩
                    subst hyx
                    subst hψx
                    subst hr
                    refine ⟨hne0, ?_⟩
                    show hw sc (d + 2) 256 165 (jm_st1 (jm_st1 (jm_st1 (jm_st1 (jm_st1 [(0, (2, 192))] 1 (0, z1)) 2 (0, z134)) 3 (0, z135)) 2 (0, z252)) 3 (0, z253)) [(0, z258)] ψ253 y258 Q
                    obtain ⟨hz259, ht259, hf259⟩ := H
                    refine hw_if (a0 := 0) (b := 1) (e := 172) (by decide +kernel) hz259 (fun q => ?_) (fun q => ?_)
                    · have H := ht259 q
                      exact hw_vret (a0 := 0) (e := 0) (by decide +kernel) H
                    · have H := hf259 q
                      refine hw_ald (b := 0) (e := 0) (by decide +kernel) (get_st1 (get_st1 (get_st1 (get_st1 (get_st1 rfl (by decide) (fun q => tg2 q.2)) (by decide) (fun q => absurd q.1 (by decide))) (by decide) (fun q => absurd q.1 (by decide))) (by decide) (fun q => absurd q.1 (by decide))) (by decide) (fun q => absurd q.1 (by decide))) (by decide) ?_
                      refine hr_call (a0 := 22) (b := 223) (e := 1) (nl := 2) (As := []) (R := []) 192 rfl (by decide +kernel) rfl rfl (Nat.le_of_ble_eq_true rfl) (Nat.le_of_ble_eq_true rfl) ?_
                      refine hw_mono H ?_
                      rintro r ψ261 y261 ⟨hyx, hr, H⟩
                      subst hyx
                      subst hr
                      refine ⟨hnen, ?_⟩
                      show hw sc (d + 2) 256 172 (jm_st1 (jm_st1 (jm_st1 (jm_st1 (jm_st1 [(0, (2, 192))] 1 (0, z1)) 2 (0, z134)) 3 (0, z135)) 2 (0, z252)) 3 (0, z253)) [] ψ261 y261 Q
                      exact hw_vret (a0 := 0) (e := 0) (by decide +kernel) H
                · have H := hf255 q
                  refine hw_ald (b := 0) (e := 0) (by decide +kernel) (get_st1 (get_st1 (get_st1 (get_st1 (get_st1 rfl (by decide) (fun q => tg2 q.2)) (by decide) (fun q => absurd q.1 (by decide))) (by decide) (fun q => absurd q.1 (by decide))) (by decide) (fun q => absurd q.1 (by decide))) (by decide) (fun q => absurd q.1 (by decide))) (by decide) ?_
                  refine hw_ld (b := 2) (e := 0) (by decide +kernel) (get_st1 get_st1e (by decide) (fun q => tg0 q.2)) ?_
                  refine hw_ld (b := 3) (e := 0) (by decide +kernel) get_st1e ?_
                  refine hr_call (a0 := 22) (b := 220) (e := 3) (nl := 3) (As := [(0, z252), (0, z253)]) (R := []) 192 rfl (by decide +kernel) rfl rfl (Nat.le_of_ble_eq_true rfl) (Nat.le_of_ble_eq_true rfl) ?_
                  refine hw_mono H ?_
                  rintro r ψ263 y263 ⟨hyx, hr, H⟩
                  subst hyx
                  subst hr
                  refine ⟨hnen, ?_⟩
                  show hw sc (d + 2) 256 156 (jm_st1 (jm_st1 (jm_st1 (jm_st1 (jm_st1 [(0, (2, 192))] 1 (0, z1)) 2 (0, z134)) 3 (0, z135)) 2 (0, z252)) 3 (0, z253)) [] ψ263 y263 Q
                  refine hw_ld (b := 1) (e := 0) (by decide +kernel) (get_st1 (get_st1 (get_st1 (get_st1 get_st1e (by decide) (fun q => tg0 q.2)) (by decide) (fun q => absurd q.1 (by decide))) (by decide) (fun q => tg0 q.2)) (by decide) (fun q => absurd q.1 (by decide))) ?_
                  refine hw_k (c := 2) (b := 0) (e := 1) (by decide +kernel) ?_
                  obtain ⟨hz264, hy264, ht264, hf264⟩ := H
                  refine hw_if2 (a0 := 0) (b := 1) (e := 172) (by decide +kernel) hz264 hy264 (fun q => ?_) (fun q => ?_)
                  · have H := ht264 q
                    exact hw_vret (a0 := 0) (e := 0) (by decide +kernel) H
                  · have H := hf264 q
                    refine hw_ald (b := 0) (e := 0) (by decide +kernel) (get_st1 (get_st1 (get_st1 (get_st1 (get_st1 rfl (by decide) (fun q => tg2 q.2)) (by decide) (fun q => absurd q.1 (by decide))) (by decide) (fun q => absurd q.1 (by decide))) (by decide) (fun q => absurd q.1 (by decide))) (by decide) (fun q => absurd q.1 (by decide))) (by decide) ?_
                    refine hr_call (a0 := 22) (b := 222) (e := 1) (nl := 1) (As := []) (R := []) 192 rfl (by decide +kernel) rfl rfl (Nat.le_of_ble_eq_true rfl) (Nat.le_of_ble_eq_true rfl) ?_
                    refine hw_mono H ?_
                    rintro r ψ266 y266 ⟨hyx, hψx, z266, hr, H⟩
                    subst hyx
                    subst hψx
                    subst hr
                    refine ⟨hne0, ?_⟩
                    show hw sc (d + 2) 256 165 (jm_st1 (jm_st1 (jm_st1 (jm_st1 (jm_st1 [(0, (2, 192))] 1 (0, z1)) 2 (0, z134)) 3 (0, z135)) 2 (0, z252)) 3 (0, z253)) [(0, z266)] ψ263 y266 Q
                    obtain ⟨hz267, ht267, hf267⟩ := H
                    refine hw_if (a0 := 0) (b := 1) (e := 172) (by decide +kernel) hz267 (fun q => ?_) (fun q => ?_)
                    · have H := ht267 q
                      exact hw_vret (a0 := 0) (e := 0) (by decide +kernel) H
                    · have H := hf267 q
                      refine hw_ald (b := 0) (e := 0) (by decide +kernel) (get_st1 (get_st1 (get_st1 (get_st1 (get_st1 rfl (by decide) (fun q => tg2 q.2)) (by decide) (fun q => absurd q.1 (by decide))) (by decide) (fun q => absurd q.1 (by decide))) (by decide) (fun q => absurd q.1 (by decide))) (by decide) (fun q => absurd q.1 (by decide))) (by decide) ?_
                      refine hr_call (a0 := 22) (b := 223) (e := 1) (nl := 2) (As := []) (R := []) 192 rfl (by decide +kernel) rfl rfl (Nat.le_of_ble_eq_true rfl) (Nat.le_of_ble_eq_true rfl) ?_
                      refine hw_mono H ?_
                      rintro r ψ269 y269 ⟨hyx, hr, H⟩
                      subst hyx
                      subst hr
                      refine ⟨hnen, ?_⟩
                      show hw sc (d + 2) 256 172 (jm_st1 (jm_st1 (jm_st1 (jm_st1 (jm_st1 [(0, (2, 192))] 1 (0, z1)) 2 (0, z134)) 3 (0, z135)) 2 (0, z252)) 3 (0, z253)) [] ψ269 y269 Q
                      exact hw_vret (a0 := 0) (e := 0) (by decide +kernel) H
theorem sf_256_192 {sc : List Int} {d : Nat} {φ : hf_F} {x : Nat} {Q : Option jm_V → hf_F → Nat → Prop}  (hI : Inv φ)  (hQ : ∀ ψ : hf_F, Inv ψ → Fr [192, 194] φ ψ → Q none ψ x) : hw sc (d + 2) 256 0 [(0, (2, 192))] [] φ x Q := by
  apply sf_256_192_v
  refine sf_257_192 (φ := φ) hI (by omega) (by omega) (fun z1 ψ1 hI1 hF1 hp1 => ⟨rfl, z1, rfl, ?_⟩)
  have hG1 : Fr [192, 194] φ ψ1 := fr_tr (fr_rf) hF1 (by decide)
  refine ⟨by unfold hi; omega, fun q2 => ?_, fun q2 => ?_⟩
  · skip
    refine ⟨by unfold hi; omega, by unfold hi; omega, fun q3 => ?_, fun q3 => ?_⟩
    · skip
      refine ⟨by unfold hi; omega, by unfold hi; omega, fun q4 => ?_, fun q4 => ?_⟩
      · skip
        exact hQ ψ1 hI1 hG1
      · skip
        refine sf_222_192 (φ := ψ1) hI1  (fun z6 hp6 => ⟨rfl, rfl, z6, rfl, ?_⟩)
        refine ⟨by unfold hi; omega, fun q7 => ?_, fun q7 => ?_⟩
        · skip
          exact hQ ψ1 hI1 hG1
        · skip
          refine sf_223_192 (φ := ψ1) hI1  (fun ψ9 hI9 hF9 => ⟨rfl, rfl, ?_⟩)
          have hG9 : Fr [192, 194] φ ψ9 := fr_tr hG1 hF9 (by decide)
          exact hQ ψ9 hI9 hG9
    · skip
      have f1 := iv_at (a := 194) (k := 3) (lo := 0) (u := 6) hI1 (by decide +kernel)
      have f2 : ψ1 194 3 = φ 194 3 := (hF1 194 (by decide) 3)
      have f3 := iv_at (a := 194) (k := 3) (lo := 0) (u := 6) hI (by decide +kernel)
      refine ⟨by unfold hi; omega, fun q11 => ?_, fun q11 => ?_⟩
      · skip
        refine ⟨by unfold hi; omega, by unfold hi; omega, fun q12 => ?_, fun q12 => ?_⟩
        · skip
          exact hQ ψ1 hI1 hG1
        · skip
          refine sf_222_192 (φ := ψ1) hI1  (fun z14 hp14 => ⟨rfl, rfl, z14, rfl, ?_⟩)
          refine ⟨by unfold hi; omega, fun q15 => ?_, fun q15 => ?_⟩
          · skip
            exact hQ ψ1 hI1 hG1
          · skip
            refine sf_223_192 (φ := ψ1) hI1  (fun ψ17 hI17 hF17 => ⟨rfl, rfl, ?_⟩)
            have hG17 : Fr [192, 194] φ ψ17 := fr_tr hG1 hF17 (by decide)
            exact hQ ψ17 hI17 hG17
      · skip
        have f4 := iv_at (a := 194) (k := 2) (lo := 0) (u := 8) hI1 (by decide +kernel)
        have f5 : ψ1 194 2 = φ 194 2 := (hF1 194 (by decide) 2)
        have f6 := iv_at (a := 194) (k := 2) (lo := 0) (u := 8) hI (by decide +kernel)
        refine ⟨by unfold hi; omega, fun q19 => ?_, fun q19 => ?_⟩
        · skip
          refine ⟨by unfold hi; omega, by unfold hi; omega, fun q20 => ?_, fun q20 => ?_⟩
          · skip
            exact hQ ψ1 hI1 hG1
          · skip
            refine sf_222_192 (φ := ψ1) hI1  (fun z22 hp22 => ⟨rfl, rfl, z22, rfl, ?_⟩)
            refine ⟨by unfold hi; omega, fun q23 => ?_, fun q23 => ?_⟩
            · skip
              exact hQ ψ1 hI1 hG1
            · skip
              refine sf_223_192 (φ := ψ1) hI1  (fun ψ25 hI25 hF25 => ⟨rfl, rfl, ?_⟩)
              have hG25 : Fr [192, 194] φ ψ25 := fr_tr hG1 hF25 (by decide)
              exact hQ ψ25 hI25 hG25
        · skip
          refine sf_257_192 (φ := ψ1) hI1 (by omega) (by omega) (fun z27 ψ27 hI27 hF27 hp27 => ⟨rfl, z27, rfl, ?_⟩)
          have hG27 : Fr [192, 194] φ ψ27 := fr_tr hG1 hF27 (by decide)
          have f7 := iv_at (a := 194) (k := 2) (lo := 0) (u := 8) hI27 (by decide +kernel)
          have f8 : ψ27 194 2 = ψ1 194 2 := (hF27 194 (by decide) 2)
          refine sf_257_192 (φ := ψ27) hI27 (by omega) (by omega) (fun z28 ψ28 hI28 hF28 hp28 => ⟨rfl, z28, rfl, ?_⟩)
          have hG28 : Fr [192, 194] φ ψ28 := fr_tr hG27 hF28 (by decide)
          refine sf_219_192 (φ := ψ28) hI28 (by omega) (by omega) (fun z29 hp29 => ⟨rfl, rfl, z29, rfl, ?_⟩)
          have f9 := iv_ar (a := 194) (s := 118) (t := 124) (lo := 0) (u := 6) (z := 118 + z27) hI28 (by decide +kernel) (by omega) (by omega)
          have f10 : ψ28 194 ((118 + z27).toNat) = ψ27 194 ((118 + z27).toNat) := (hF28 194 (by decide) ((118 + z27).toNat))
          have f11 := iv_ar (a := 194) (s := 118) (t := 124) (lo := 0) (u := 6) (z := 118 + z27) hI27 (by decide +kernel) (by omega) (by omega)
          have f12 : ψ27 194 ((118 + z27).toNat) = ψ1 194 ((118 + z27).toNat) := (hF27 194 (by decide) ((118 + z27).toNat))
          have f13 := iv_ar (a := 194) (s := 118) (t := 124) (lo := 0) (u := 6) (z := 118 + z27) hI1 (by decide +kernel) (by omega) (by omega)
          have f14 : ψ1 194 ((118 + z27).toNat) = φ 194 ((118 + z27).toNat) := (hF1 194 (by decide) ((118 + z27).toNat))
          have f15 := iv_ar (a := 194) (s := 118) (t := 124) (lo := 0) (u := 6) (z := 118 + z27) hI (by decide +kernel) (by omega) (by omega)
          refine ⟨by unfold hi; omega, fun q30 => ?_, fun q30 => ?_⟩
          · skip
            refine ⟨by unfold hi; omega, by unfold hi; omega, fun q31 => ?_, fun q31 => ?_⟩
            · skip
              exact hQ ψ28 hI28 hG28
            · skip
              refine sf_222_192 (φ := ψ28) hI28  (fun z33 hp33 => ⟨rfl, rfl, z33, rfl, ?_⟩)
              refine ⟨by unfold hi; omega, fun q34 => ?_, fun q34 => ?_⟩
              · skip
                exact hQ ψ28 hI28 hG28
              · skip
                refine sf_223_192 (φ := ψ28) hI28  (fun ψ36 hI36 hF36 => ⟨rfl, rfl, ?_⟩)
                have hG36 : Fr [192, 194] φ ψ36 := fr_tr hG28 hF36 (by decide)
                exact hQ ψ36 hI36 hG36
          · skip
            refine sf_220_192 (φ := ψ28) hI28 (by omega) (by omega) (by omega) (by omega) (by omega) (fun ψ38 hI38 hF38 => ⟨rfl, rfl, ?_⟩)
            have hG38 : Fr [192, 194] φ ψ38 := fr_tr hG28 hF38 (by decide)
            refine ⟨by unfold hi; omega, by unfold hi; omega, fun q39 => ?_, fun q39 => ?_⟩
            · skip
              exact hQ ψ38 hI38 hG38
            · skip
              refine sf_222_192 (φ := ψ38) hI38  (fun z41 hp41 => ⟨rfl, rfl, z41, rfl, ?_⟩)
              refine ⟨by unfold hi; omega, fun q42 => ?_, fun q42 => ?_⟩
              · skip
                exact hQ ψ38 hI38 hG38
              · skip
                refine sf_223_192 (φ := ψ38) hI38  (fun ψ44 hI44 hF44 => ⟨rfl, rfl, ?_⟩)
                have hG44 : Fr [192, 194] φ ψ44 := fr_tr hG38 hF44 (by decide)
                exact hQ ψ44 hI44 hG44
  · skip
    have f16 := iv_at (a := 194) (k := 3) (lo := 0) (u := 6) hI1 (by decide +kernel)
    have f17 : ψ1 194 3 = φ 194 3 := (hF1 194 (by decide) 3)
    have f18 := iv_at (a := 194) (k := 3) (lo := 0) (u := 6) hI (by decide +kernel)
    refine ⟨by unfold hi; omega, fun q46 => ?_, fun q46 => ?_⟩
    · skip
      refine ⟨by unfold hi; omega, by unfold hi; omega, fun q47 => ?_, fun q47 => ?_⟩
      · skip
        refine ⟨by unfold hi; omega, by unfold hi; omega, fun q48 => ?_, fun q48 => ?_⟩
        · skip
          exact hQ ψ1 hI1 hG1
        · skip
          refine sf_222_192 (φ := ψ1) hI1  (fun z50 hp50 => ⟨rfl, rfl, z50, rfl, ?_⟩)
          refine ⟨by unfold hi; omega, fun q51 => ?_, fun q51 => ?_⟩
          · skip
            exact hQ ψ1 hI1 hG1
          · skip
            refine sf_223_192 (φ := ψ1) hI1  (fun ψ53 hI53 hF53 => ⟨rfl, rfl, ?_⟩)
            have hG53 : Fr [192, 194] φ ψ53 := fr_tr hG1 hF53 (by decide)
            exact hQ ψ53 hI53 hG53
      · skip
        refine ⟨by unfold hi; omega, fun q55 => ?_, fun q55 => ?_⟩
        · skip
          refine ⟨by unfold hi; omega, by unfold hi; omega, fun q56 => ?_, fun q56 => ?_⟩
          · skip
            exact hQ ψ1 hI1 hG1
          · skip
            refine sf_222_192 (φ := ψ1) hI1  (fun z58 hp58 => ⟨rfl, rfl, z58, rfl, ?_⟩)
            refine ⟨by unfold hi; omega, fun q59 => ?_, fun q59 => ?_⟩
            · skip
              exact hQ ψ1 hI1 hG1
            · skip
              refine sf_223_192 (φ := ψ1) hI1  (fun ψ61 hI61 hF61 => ⟨rfl, rfl, ?_⟩)
              have hG61 : Fr [192, 194] φ ψ61 := fr_tr hG1 hF61 (by decide)
              exact hQ ψ61 hI61 hG61
        · skip
          have f19 := iv_at (a := 194) (k := 2) (lo := 0) (u := 8) hI1 (by decide +kernel)
          have f20 : ψ1 194 2 = φ 194 2 := (hF1 194 (by decide) 2)
          have f21 := iv_at (a := 194) (k := 2) (lo := 0) (u := 8) hI (by decide +kernel)
          refine ⟨by unfold hi; omega, fun q63 => ?_, fun q63 => ?_⟩
          · skip
            refine ⟨by unfold hi; omega, by unfold hi; omega, fun q64 => ?_, fun q64 => ?_⟩
            · skip
              exact hQ ψ1 hI1 hG1
            · skip
              refine sf_222_192 (φ := ψ1) hI1  (fun z66 hp66 => ⟨rfl, rfl, z66, rfl, ?_⟩)
              refine ⟨by unfold hi; omega, fun q67 => ?_, fun q67 => ?_⟩
              · skip
                exact hQ ψ1 hI1 hG1
              · skip
                refine sf_223_192 (φ := ψ1) hI1  (fun ψ69 hI69 hF69 => ⟨rfl, rfl, ?_⟩)
                have hG69 : Fr [192, 194] φ ψ69 := fr_tr hG1 hF69 (by decide)
                exact hQ ψ69 hI69 hG69
          · skip
            refine sf_257_192 (φ := ψ1) hI1 (by omega) (by omega) (fun z71 ψ71 hI71 hF71 hp71 => ⟨rfl, z71, rfl, ?_⟩)
            have hG71 : Fr [192, 194] φ ψ71 := fr_tr hG1 hF71 (by decide)
            have f22 := iv_at (a := 194) (k := 2) (lo := 0) (u := 8) hI71 (by decide +kernel)
            have f23 : ψ71 194 2 = ψ1 194 2 := (hF71 194 (by decide) 2)
            refine sf_257_192 (φ := ψ71) hI71 (by omega) (by omega) (fun z72 ψ72 hI72 hF72 hp72 => ⟨rfl, z72, rfl, ?_⟩)
            have hG72 : Fr [192, 194] φ ψ72 := fr_tr hG71 hF72 (by decide)
            refine sf_219_192 (φ := ψ72) hI72 (by omega) (by omega) (fun z73 hp73 => ⟨rfl, rfl, z73, rfl, ?_⟩)
            have f24 := iv_ar (a := 194) (s := 118) (t := 124) (lo := 0) (u := 6) (z := 118 + z71) hI72 (by decide +kernel) (by omega) (by omega)
            have f25 : ψ72 194 ((118 + z71).toNat) = ψ71 194 ((118 + z71).toNat) := (hF72 194 (by decide) ((118 + z71).toNat))
            have f26 := iv_ar (a := 194) (s := 118) (t := 124) (lo := 0) (u := 6) (z := 118 + z71) hI71 (by decide +kernel) (by omega) (by omega)
            have f27 : ψ71 194 ((118 + z71).toNat) = ψ1 194 ((118 + z71).toNat) := (hF71 194 (by decide) ((118 + z71).toNat))
            have f28 := iv_ar (a := 194) (s := 118) (t := 124) (lo := 0) (u := 6) (z := 118 + z71) hI1 (by decide +kernel) (by omega) (by omega)
            have f29 : ψ1 194 ((118 + z71).toNat) = φ 194 ((118 + z71).toNat) := (hF1 194 (by decide) ((118 + z71).toNat))
            have f30 := iv_ar (a := 194) (s := 118) (t := 124) (lo := 0) (u := 6) (z := 118 + z71) hI (by decide +kernel) (by omega) (by omega)
            refine ⟨by unfold hi; omega, fun q74 => ?_, fun q74 => ?_⟩
            · skip
              refine ⟨by unfold hi; omega, by unfold hi; omega, fun q75 => ?_, fun q75 => ?_⟩
              · skip
                exact hQ ψ72 hI72 hG72
              · skip
                refine sf_222_192 (φ := ψ72) hI72  (fun z77 hp77 => ⟨rfl, rfl, z77, rfl, ?_⟩)
                refine ⟨by unfold hi; omega, fun q78 => ?_, fun q78 => ?_⟩
                · skip
                  exact hQ ψ72 hI72 hG72
                · skip
                  refine sf_223_192 (φ := ψ72) hI72  (fun ψ80 hI80 hF80 => ⟨rfl, rfl, ?_⟩)
                  have hG80 : Fr [192, 194] φ ψ80 := fr_tr hG72 hF80 (by decide)
                  exact hQ ψ80 hI80 hG80
            · skip
              refine sf_220_192 (φ := ψ72) hI72 (by omega) (by omega) (by omega) (by omega) (by omega) (fun ψ82 hI82 hF82 => ⟨rfl, rfl, ?_⟩)
              have hG82 : Fr [192, 194] φ ψ82 := fr_tr hG72 hF82 (by decide)
              refine ⟨by unfold hi; omega, by unfold hi; omega, fun q83 => ?_, fun q83 => ?_⟩
              · skip
                exact hQ ψ82 hI82 hG82
              · skip
                refine sf_222_192 (φ := ψ82) hI82  (fun z85 hp85 => ⟨rfl, rfl, z85, rfl, ?_⟩)
                refine ⟨by unfold hi; omega, fun q86 => ?_, fun q86 => ?_⟩
                · skip
                  exact hQ ψ82 hI82 hG82
                · skip
                  refine sf_223_192 (φ := ψ82) hI82  (fun ψ88 hI88 hF88 => ⟨rfl, rfl, ?_⟩)
                  have hG88 : Fr [192, 194] φ ψ88 := fr_tr hG82 hF88 (by decide)
                  exact hQ ψ88 hI88 hG88
    · skip
      have f31 := iv_at (a := 194) (k := 1) (lo := 0) (u := 8) hI1 (by decide +kernel)
      have f32 : ψ1 194 1 = φ 194 1 := (hF1 194 (by decide) 1)
      have f33 := iv_at (a := 194) (k := 1) (lo := 0) (u := 8) hI (by decide +kernel)
      refine ⟨by unfold hi; omega, fun q90 => ?_, fun q90 => ?_⟩
      · skip
        refine ⟨by unfold hi; omega, by unfold hi; omega, fun q91 => ?_, fun q91 => ?_⟩
        · skip
          refine ⟨by unfold hi; omega, by unfold hi; omega, fun q92 => ?_, fun q92 => ?_⟩
          · skip
            exact hQ ψ1 hI1 hG1
          · skip
            refine sf_222_192 (φ := ψ1) hI1  (fun z94 hp94 => ⟨rfl, rfl, z94, rfl, ?_⟩)
            refine ⟨by unfold hi; omega, fun q95 => ?_, fun q95 => ?_⟩
            · skip
              exact hQ ψ1 hI1 hG1
            · skip
              refine sf_223_192 (φ := ψ1) hI1  (fun ψ97 hI97 hF97 => ⟨rfl, rfl, ?_⟩)
              have hG97 : Fr [192, 194] φ ψ97 := fr_tr hG1 hF97 (by decide)
              exact hQ ψ97 hI97 hG97
        · skip
          refine ⟨by unfold hi; omega, fun q99 => ?_, fun q99 => ?_⟩
          · skip
            refine ⟨by unfold hi; omega, by unfold hi; omega, fun q100 => ?_, fun q100 => ?_⟩
            · skip
              exact hQ ψ1 hI1 hG1
            · skip
              refine sf_222_192 (φ := ψ1) hI1  (fun z102 hp102 => ⟨rfl, rfl, z102, rfl, ?_⟩)
              refine ⟨by unfold hi; omega, fun q103 => ?_, fun q103 => ?_⟩
              · skip
                exact hQ ψ1 hI1 hG1
              · skip
                refine sf_223_192 (φ := ψ1) hI1  (fun ψ105 hI105 hF105 => ⟨rfl, rfl, ?_⟩)
                have hG105 : Fr [192, 194] φ ψ105 := fr_tr hG1 hF105 (by decide)
                exact hQ ψ105 hI105 hG105
          · skip
            have f34 := iv_at (a := 194) (k := 2) (lo := 0) (u := 8) hI1 (by decide +kernel)
            have f35 : ψ1 194 2 = φ 194 2 := (hF1 194 (by decide) 2)
            have f36 := iv_at (a := 194) (k := 2) (lo := 0) (u := 8) hI (by decide +kernel)
            refine ⟨by unfold hi; omega, fun q107 => ?_, fun q107 => ?_⟩
            · skip
              refine ⟨by unfold hi; omega, by unfold hi; omega, fun q108 => ?_, fun q108 => ?_⟩
              · skip
                exact hQ ψ1 hI1 hG1
              · skip
                refine sf_222_192 (φ := ψ1) hI1  (fun z110 hp110 => ⟨rfl, rfl, z110, rfl, ?_⟩)
                refine ⟨by unfold hi; omega, fun q111 => ?_, fun q111 => ?_⟩
                · skip
                  exact hQ ψ1 hI1 hG1
                · skip
                  refine sf_223_192 (φ := ψ1) hI1  (fun ψ113 hI113 hF113 => ⟨rfl, rfl, ?_⟩)
                  have hG113 : Fr [192, 194] φ ψ113 := fr_tr hG1 hF113 (by decide)
                  exact hQ ψ113 hI113 hG113
            · skip
              refine sf_257_192 (φ := ψ1) hI1 (by omega) (by omega) (fun z115 ψ115 hI115 hF115 hp115 => ⟨rfl, z115, rfl, ?_⟩)
              have hG115 : Fr [192, 194] φ ψ115 := fr_tr hG1 hF115 (by decide)
              have f37 := iv_at (a := 194) (k := 2) (lo := 0) (u := 8) hI115 (by decide +kernel)
              have f38 : ψ115 194 2 = ψ1 194 2 := (hF115 194 (by decide) 2)
              refine sf_257_192 (φ := ψ115) hI115 (by omega) (by omega) (fun z116 ψ116 hI116 hF116 hp116 => ⟨rfl, z116, rfl, ?_⟩)
              have hG116 : Fr [192, 194] φ ψ116 := fr_tr hG115 hF116 (by decide)
              refine sf_219_192 (φ := ψ116) hI116 (by omega) (by omega) (fun z117 hp117 => ⟨rfl, rfl, z117, rfl, ?_⟩)
              have f39 := iv_ar (a := 194) (s := 118) (t := 124) (lo := 0) (u := 6) (z := 118 + z115) hI116 (by decide +kernel) (by omega) (by omega)
              have f40 : ψ116 194 ((118 + z115).toNat) = ψ115 194 ((118 + z115).toNat) := (hF116 194 (by decide) ((118 + z115).toNat))
              have f41 := iv_ar (a := 194) (s := 118) (t := 124) (lo := 0) (u := 6) (z := 118 + z115) hI115 (by decide +kernel) (by omega) (by omega)
              have f42 : ψ115 194 ((118 + z115).toNat) = ψ1 194 ((118 + z115).toNat) := (hF115 194 (by decide) ((118 + z115).toNat))
              have f43 := iv_ar (a := 194) (s := 118) (t := 124) (lo := 0) (u := 6) (z := 118 + z115) hI1 (by decide +kernel) (by omega) (by omega)
              have f44 : ψ1 194 ((118 + z115).toNat) = φ 194 ((118 + z115).toNat) := (hF1 194 (by decide) ((118 + z115).toNat))
              have f45 := iv_ar (a := 194) (s := 118) (t := 124) (lo := 0) (u := 6) (z := 118 + z115) hI (by decide +kernel) (by omega) (by omega)
              refine ⟨by unfold hi; omega, fun q118 => ?_, fun q118 => ?_⟩
              · skip
                refine ⟨by unfold hi; omega, by unfold hi; omega, fun q119 => ?_, fun q119 => ?_⟩
                · skip
                  exact hQ ψ116 hI116 hG116
                · skip
                  refine sf_222_192 (φ := ψ116) hI116  (fun z121 hp121 => ⟨rfl, rfl, z121, rfl, ?_⟩)
                  refine ⟨by unfold hi; omega, fun q122 => ?_, fun q122 => ?_⟩
                  · skip
                    exact hQ ψ116 hI116 hG116
                  · skip
                    refine sf_223_192 (φ := ψ116) hI116  (fun ψ124 hI124 hF124 => ⟨rfl, rfl, ?_⟩)
                    have hG124 : Fr [192, 194] φ ψ124 := fr_tr hG116 hF124 (by decide)
                    exact hQ ψ124 hI124 hG124
              · skip
                refine sf_220_192 (φ := ψ116) hI116 (by omega) (by omega) (by omega) (by omega) (by omega) (fun ψ126 hI126 hF126 => ⟨rfl, rfl, ?_⟩)
                have hG126 : Fr [192, 194] φ ψ126 := fr_tr hG116 hF126 (by decide)
                refine ⟨by unfold hi; omega, by unfold hi; omega, fun q127 => ?_, fun q127 => ?_⟩
                · skip
                  exact hQ ψ126 hI126 hG126
                · skip
                  refine sf_222_192 (φ := ψ126) hI126  (fun z129 hp129 => ⟨rfl, rfl, z129, rfl, ?_⟩)
                  refine ⟨by unfold hi; omega, fun q130 => ?_, fun q130 => ?_⟩
                  · skip
                    exact hQ ψ126 hI126 hG126
                  · skip
                    refine sf_223_192 (φ := ψ126) hI126  (fun ψ132 hI132 hF132 => ⟨rfl, rfl, ?_⟩)
                    have hG132 : Fr [192, 194] φ ψ132 := fr_tr hG126 hF132 (by decide)
                    exact hQ ψ132 hI132 hG132
      · skip
        refine sf_257_192 (φ := ψ1) hI1 (by omega) (by omega) (fun z134 ψ134 hI134 hF134 hp134 => ⟨rfl, z134, rfl, ?_⟩)
        have hG134 : Fr [192, 194] φ ψ134 := fr_tr hG1 hF134 (by decide)
        have f46 := iv_at (a := 194) (k := 1) (lo := 0) (u := 8) hI134 (by decide +kernel)
        have f47 : ψ134 194 1 = ψ1 194 1 := (hF134 194 (by decide) 1)
        refine sf_257_192 (φ := ψ134) hI134 (by omega) (by omega) (fun z135 ψ135 hI135 hF135 hp135 => ⟨rfl, z135, rfl, ?_⟩)
        have hG135 : Fr [192, 194] φ ψ135 := fr_tr hG134 hF135 (by decide)
        refine ⟨by omega, by omega, ?_⟩
        have f48 := iv_ar (a := 194) (s := 112) (t := 118) (lo := 0) (u := 8) (z := 112 + z134) hI135 (by decide +kernel) (by omega) (by omega)
        have f49 : ψ135 194 ((112 + z134).toNat) = ψ134 194 ((112 + z134).toNat) := (hF135 194 (by decide) ((112 + z134).toNat))
        have f50 := iv_ar (a := 194) (s := 112) (t := 118) (lo := 0) (u := 8) (z := 112 + z134) hI134 (by decide +kernel) (by omega) (by omega)
        have f51 : ψ134 194 ((112 + z134).toNat) = ψ1 194 ((112 + z134).toNat) := (hF134 194 (by decide) ((112 + z134).toNat))
        have f52 := iv_ar (a := 194) (s := 112) (t := 118) (lo := 0) (u := 8) (z := 112 + z134) hI1 (by decide +kernel) (by omega) (by omega)
        have f53 : ψ1 194 ((112 + z134).toNat) = φ 194 ((112 + z134).toNat) := (hF1 194 (by decide) ((112 + z134).toNat))
        have f54 := iv_ar (a := 194) (s := 112) (t := 118) (lo := 0) (u := 8) (z := 112 + z134) hI (by decide +kernel) (by omega) (by omega)
        refine ⟨by unfold hi; omega, fun q137 => ?_, fun q137 => ?_⟩
        · skip
          refine sf_215_192 (φ := ψ135) hI135 (by omega) (by omega) (by omega) (by omega) (fun z138 hp138 => ⟨rfl, rfl, z138, rfl, ?_⟩)
          refine ⟨by unfold hi; omega, fun q139 => ?_, fun q139 => ?_⟩
          · skip
            refine ⟨by unfold hi; omega, by unfold hi; omega, fun q140 => ?_, fun q140 => ?_⟩
            · skip
              refine ⟨by unfold hi; omega, by unfold hi; omega, fun q141 => ?_, fun q141 => ?_⟩
              · skip
                exact hQ ψ135 hI135 hG135
              · skip
                refine sf_222_192 (φ := ψ135) hI135  (fun z143 hp143 => ⟨rfl, rfl, z143, rfl, ?_⟩)
                refine ⟨by unfold hi; omega, fun q144 => ?_, fun q144 => ?_⟩
                · skip
                  exact hQ ψ135 hI135 hG135
                · skip
                  refine sf_223_192 (φ := ψ135) hI135  (fun ψ146 hI146 hF146 => ⟨rfl, rfl, ?_⟩)
                  have hG146 : Fr [192, 194] φ ψ146 := fr_tr hG135 hF146 (by decide)
                  exact hQ ψ146 hI146 hG146
            · skip
              have f55 := iv_at (a := 194) (k := 3) (lo := 0) (u := 6) hI135 (by decide +kernel)
              have f56 : ψ135 194 3 = ψ134 194 3 := (hF135 194 (by decide) 3)
              have f57 := iv_at (a := 194) (k := 3) (lo := 0) (u := 6) hI134 (by decide +kernel)
              have f58 : ψ134 194 3 = ψ1 194 3 := (hF134 194 (by decide) 3)
              refine ⟨by unfold hi; omega, fun q148 => ?_, fun q148 => ?_⟩
              · skip
                refine ⟨by unfold hi; omega, by unfold hi; omega, fun q149 => ?_, fun q149 => ?_⟩
                · skip
                  exact hQ ψ135 hI135 hG135
                · skip
                  refine sf_222_192 (φ := ψ135) hI135  (fun z151 hp151 => ⟨rfl, rfl, z151, rfl, ?_⟩)
                  refine ⟨by unfold hi; omega, fun q152 => ?_, fun q152 => ?_⟩
                  · skip
                    exact hQ ψ135 hI135 hG135
                  · skip
                    refine sf_223_192 (φ := ψ135) hI135  (fun ψ154 hI154 hF154 => ⟨rfl, rfl, ?_⟩)
                    have hG154 : Fr [192, 194] φ ψ154 := fr_tr hG135 hF154 (by decide)
                    exact hQ ψ154 hI154 hG154
              · skip
                have f59 := iv_at (a := 194) (k := 2) (lo := 0) (u := 8) hI135 (by decide +kernel)
                have f60 : ψ135 194 2 = ψ134 194 2 := (hF135 194 (by decide) 2)
                have f61 := iv_at (a := 194) (k := 2) (lo := 0) (u := 8) hI134 (by decide +kernel)
                have f62 : ψ134 194 2 = ψ1 194 2 := (hF134 194 (by decide) 2)
                have f63 := iv_at (a := 194) (k := 2) (lo := 0) (u := 8) hI1 (by decide +kernel)
                have f64 : ψ1 194 2 = φ 194 2 := (hF1 194 (by decide) 2)
                have f65 := iv_at (a := 194) (k := 2) (lo := 0) (u := 8) hI (by decide +kernel)
                refine ⟨by unfold hi; omega, fun q156 => ?_, fun q156 => ?_⟩
                · skip
                  refine ⟨by unfold hi; omega, by unfold hi; omega, fun q157 => ?_, fun q157 => ?_⟩
                  · skip
                    exact hQ ψ135 hI135 hG135
                  · skip
                    refine sf_222_192 (φ := ψ135) hI135  (fun z159 hp159 => ⟨rfl, rfl, z159, rfl, ?_⟩)
                    refine ⟨by unfold hi; omega, fun q160 => ?_, fun q160 => ?_⟩
                    · skip
                      exact hQ ψ135 hI135 hG135
                    · skip
                      refine sf_223_192 (φ := ψ135) hI135  (fun ψ162 hI162 hF162 => ⟨rfl, rfl, ?_⟩)
                      have hG162 : Fr [192, 194] φ ψ162 := fr_tr hG135 hF162 (by decide)
                      exact hQ ψ162 hI162 hG162
                · skip
                  refine sf_257_192 (φ := ψ135) hI135 (by omega) (by omega) (fun z164 ψ164 hI164 hF164 hp164 => ⟨rfl, z164, rfl, ?_⟩)
                  have hG164 : Fr [192, 194] φ ψ164 := fr_tr hG135 hF164 (by decide)
                  have f66 := iv_at (a := 194) (k := 2) (lo := 0) (u := 8) hI164 (by decide +kernel)
                  have f67 : ψ164 194 2 = ψ135 194 2 := (hF164 194 (by decide) 2)
                  refine sf_257_192 (φ := ψ164) hI164 (by omega) (by omega) (fun z165 ψ165 hI165 hF165 hp165 => ⟨rfl, z165, rfl, ?_⟩)
                  have hG165 : Fr [192, 194] φ ψ165 := fr_tr hG164 hF165 (by decide)
                  refine sf_219_192 (φ := ψ165) hI165 (by omega) (by omega) (fun z166 hp166 => ⟨rfl, rfl, z166, rfl, ?_⟩)
                  have f68 := iv_ar (a := 194) (s := 118) (t := 124) (lo := 0) (u := 6) (z := 118 + z164) hI165 (by decide +kernel) (by omega) (by omega)
                  have f69 : ψ165 194 ((118 + z164).toNat) = ψ164 194 ((118 + z164).toNat) := (hF165 194 (by decide) ((118 + z164).toNat))
                  have f70 := iv_ar (a := 194) (s := 118) (t := 124) (lo := 0) (u := 6) (z := 118 + z164) hI164 (by decide +kernel) (by omega) (by omega)
                  have f71 : ψ164 194 ((118 + z164).toNat) = ψ135 194 ((118 + z164).toNat) := (hF164 194 (by decide) ((118 + z164).toNat))
                  have f72 := iv_ar (a := 194) (s := 118) (t := 124) (lo := 0) (u := 6) (z := 118 + z164) hI135 (by decide +kernel) (by omega) (by omega)
                  have f73 : ψ135 194 ((118 + z164).toNat) = ψ134 194 ((118 + z164).toNat) := (hF135 194 (by decide) ((118 + z164).toNat))
                  have f74 := iv_ar (a := 194) (s := 118) (t := 124) (lo := 0) (u := 6) (z := 118 + z164) hI134 (by decide +kernel) (by omega) (by omega)
                  have f75 : ψ134 194 ((118 + z164).toNat) = ψ1 194 ((118 + z164).toNat) := (hF134 194 (by decide) ((118 + z164).toNat))
                  have f76 := iv_ar (a := 194) (s := 118) (t := 124) (lo := 0) (u := 6) (z := 118 + z164) hI1 (by decide +kernel) (by omega) (by omega)
                  have f77 : ψ1 194 ((118 + z164).toNat) = φ 194 ((118 + z164).toNat) := (hF1 194 (by decide) ((118 + z164).toNat))
                  have f78 := iv_ar (a := 194) (s := 118) (t := 124) (lo := 0) (u := 6) (z := 118 + z164) hI (by decide +kernel) (by omega) (by omega)
                  refine ⟨by unfold hi; omega, fun q167 => ?_, fun q167 => ?_⟩
                  · skip
                    refine ⟨by unfold hi; omega, by unfold hi; omega, fun q168 => ?_, fun q168 => ?_⟩
                    · skip
                      exact hQ ψ165 hI165 hG165
                    · skip
                      refine sf_222_192 (φ := ψ165) hI165  (fun z170 hp170 => ⟨rfl, rfl, z170, rfl, ?_⟩)
                      refine ⟨by unfold hi; omega, fun q171 => ?_, fun q171 => ?_⟩
                      · skip
                        exact hQ ψ165 hI165 hG165
                      · skip
                        refine sf_223_192 (φ := ψ165) hI165  (fun ψ173 hI173 hF173 => ⟨rfl, rfl, ?_⟩)
                        have hG173 : Fr [192, 194] φ ψ173 := fr_tr hG165 hF173 (by decide)
                        exact hQ ψ173 hI173 hG173
                  · skip
                    refine sf_220_192 (φ := ψ165) hI165 (by omega) (by omega) (by omega) (by omega) (by omega) (fun ψ175 hI175 hF175 => ⟨rfl, rfl, ?_⟩)
                    have hG175 : Fr [192, 194] φ ψ175 := fr_tr hG165 hF175 (by decide)
                    refine ⟨by unfold hi; omega, by unfold hi; omega, fun q176 => ?_, fun q176 => ?_⟩
                    · skip
                      exact hQ ψ175 hI175 hG175
                    · skip
                      refine sf_222_192 (φ := ψ175) hI175  (fun z178 hp178 => ⟨rfl, rfl, z178, rfl, ?_⟩)
                      refine ⟨by unfold hi; omega, fun q179 => ?_, fun q179 => ?_⟩
                      · skip
                        exact hQ ψ175 hI175 hG175
                      · skip
                        refine sf_223_192 (φ := ψ175) hI175  (fun ψ181 hI181 hF181 => ⟨rfl, rfl, ?_⟩)
                        have hG181 : Fr [192, 194] φ ψ181 := fr_tr hG175 hF181 (by decide)
                        exact hQ ψ181 hI181 hG181
          · skip
            refine ⟨by omega, by omega, ?_⟩
            have i79 : Inv (hf_up ψ135 194 ((112 + z134).toNat) (z135 + 1)) := iv_upI (s := 112) (t := 118) (lo := 0) (u := 8) (z := 112 + z134) hI135 (by decide +kernel) (by omega) (by omega) (by omega) (by omega)
            have r79 : Fr [192, 194] φ (hf_up ψ135 194 ((112 + z134).toNat) (z135 + 1)) := fr_up hG135 (by decide)
            refine ⟨by unfold hi; omega, by unfold hi; omega, fun q184 => ?_, fun q184 => ?_⟩
            · skip
              refine ⟨by unfold hi; omega, by unfold hi; omega, fun q185 => ?_, fun q185 => ?_⟩
              · skip
                exact hQ (hf_up ψ135 194 ((112 + z134).toNat) (z135 + 1)) i79 r79
              · skip
                refine sf_222_192 (φ := (hf_up ψ135 194 ((112 + z134).toNat) (z135 + 1))) i79  (fun z187 hp187 => ⟨rfl, rfl, z187, rfl, ?_⟩)
                refine ⟨by unfold hi; omega, fun q188 => ?_, fun q188 => ?_⟩
                · skip
                  exact hQ (hf_up ψ135 194 ((112 + z134).toNat) (z135 + 1)) i79 r79
                · skip
                  refine sf_223_192 (φ := (hf_up ψ135 194 ((112 + z134).toNat) (z135 + 1))) i79  (fun ψ190 hI190 hF190 => ⟨rfl, rfl, ?_⟩)
                  have hG190 : Fr [192, 194] φ ψ190 := fr_tr r79 hF190 (by decide)
                  exact hQ ψ190 hI190 hG190
            · skip
              have f80 := iv_at (a := 194) (k := 3) (lo := 0) (u := 6) i79 (by decide +kernel)
              refine ⟨by unfold hi; omega, fun q192 => ?_, fun q192 => ?_⟩
              · skip
                refine ⟨by unfold hi; omega, by unfold hi; omega, fun q193 => ?_, fun q193 => ?_⟩
                · skip
                  exact hQ (hf_up ψ135 194 ((112 + z134).toNat) (z135 + 1)) i79 r79
                · skip
                  refine sf_222_192 (φ := (hf_up ψ135 194 ((112 + z134).toNat) (z135 + 1))) i79  (fun z195 hp195 => ⟨rfl, rfl, z195, rfl, ?_⟩)
                  refine ⟨by unfold hi; omega, fun q196 => ?_, fun q196 => ?_⟩
                  · skip
                    exact hQ (hf_up ψ135 194 ((112 + z134).toNat) (z135 + 1)) i79 r79
                  · skip
                    refine sf_223_192 (φ := (hf_up ψ135 194 ((112 + z134).toNat) (z135 + 1))) i79  (fun ψ198 hI198 hF198 => ⟨rfl, rfl, ?_⟩)
                    have hG198 : Fr [192, 194] φ ψ198 := fr_tr r79 hF198 (by decide)
                    exact hQ ψ198 hI198 hG198
              · skip
                have f81 := iv_at (a := 194) (k := 2) (lo := 0) (u := 8) i79 (by decide +kernel)
                refine ⟨by unfold hi; omega, fun q200 => ?_, fun q200 => ?_⟩
                · skip
                  refine ⟨by unfold hi; omega, by unfold hi; omega, fun q201 => ?_, fun q201 => ?_⟩
                  · skip
                    exact hQ (hf_up ψ135 194 ((112 + z134).toNat) (z135 + 1)) i79 r79
                  · skip
                    refine sf_222_192 (φ := (hf_up ψ135 194 ((112 + z134).toNat) (z135 + 1))) i79  (fun z203 hp203 => ⟨rfl, rfl, z203, rfl, ?_⟩)
                    refine ⟨by unfold hi; omega, fun q204 => ?_, fun q204 => ?_⟩
                    · skip
                      exact hQ (hf_up ψ135 194 ((112 + z134).toNat) (z135 + 1)) i79 r79
                    · skip
                      refine sf_223_192 (φ := (hf_up ψ135 194 ((112 + z134).toNat) (z135 + 1))) i79  (fun ψ206 hI206 hF206 => ⟨rfl, rfl, ?_⟩)
                      have hG206 : Fr [192, 194] φ ψ206 := fr_tr r79 hF206 (by decide)
                      exact hQ ψ206 hI206 hG206
                · skip
                  refine sf_257_192 (φ := (hf_up ψ135 194 ((112 + z134).toNat) (z135 + 1))) i79 (by omega) (by omega) (fun z208 ψ208 hI208 hF208 hp208 => ⟨rfl, z208, rfl, ?_⟩)
                  have hG208 : Fr [192, 194] φ ψ208 := fr_tr r79 hF208 (by decide)
                  have f82 := iv_at (a := 194) (k := 2) (lo := 0) (u := 8) hI208 (by decide +kernel)
                  have f83 : ψ208 194 2 = ψ135 194 2 := (hF208 194 (by decide) 2).trans (hf_up_ne (fun q => absurd q.2 (by omega)))
                  refine sf_257_192 (φ := ψ208) hI208 (by omega) (by omega) (fun z209 ψ209 hI209 hF209 hp209 => ⟨rfl, z209, rfl, ?_⟩)
                  have hG209 : Fr [192, 194] φ ψ209 := fr_tr hG208 hF209 (by decide)
                  refine sf_219_192 (φ := ψ209) hI209 (by omega) (by omega) (fun z210 hp210 => ⟨rfl, rfl, z210, rfl, ?_⟩)
                  have f84 := iv_ar (a := 194) (s := 118) (t := 124) (lo := 0) (u := 6) (z := 118 + z208) hI209 (by decide +kernel) (by omega) (by omega)
                  have f85 : ψ209 194 ((118 + z208).toNat) = ψ208 194 ((118 + z208).toNat) := (hF209 194 (by decide) ((118 + z208).toNat))
                  have f86 := iv_ar (a := 194) (s := 118) (t := 124) (lo := 0) (u := 6) (z := 118 + z208) hI208 (by decide +kernel) (by omega) (by omega)
                  have f87 : ψ208 194 ((118 + z208).toNat) = ψ135 194 ((118 + z208).toNat) := (hF208 194 (by decide) ((118 + z208).toNat)).trans (hf_up_ne (fun q => absurd q.2 (by omega)))
                  have f88 := iv_ar (a := 194) (s := 118) (t := 124) (lo := 0) (u := 6) (z := 118 + z208) i79 (by decide +kernel) (by omega) (by omega)
                  refine ⟨by unfold hi; omega, fun q211 => ?_, fun q211 => ?_⟩
                  · skip
                    refine ⟨by unfold hi; omega, by unfold hi; omega, fun q212 => ?_, fun q212 => ?_⟩
                    · skip
                      exact hQ ψ209 hI209 hG209
                    · skip
                      refine sf_222_192 (φ := ψ209) hI209  (fun z214 hp214 => ⟨rfl, rfl, z214, rfl, ?_⟩)
                      refine ⟨by unfold hi; omega, fun q215 => ?_, fun q215 => ?_⟩
                      · skip
                        exact hQ ψ209 hI209 hG209
                      · skip
                        refine sf_223_192 (φ := ψ209) hI209  (fun ψ217 hI217 hF217 => ⟨rfl, rfl, ?_⟩)
                        have hG217 : Fr [192, 194] φ ψ217 := fr_tr hG209 hF217 (by decide)
                        exact hQ ψ217 hI217 hG217
                  · skip
                    refine sf_220_192 (φ := ψ209) hI209 (by omega) (by omega) (by omega) (by omega) (by omega) (fun ψ219 hI219 hF219 => ⟨rfl, rfl, ?_⟩)
                    have hG219 : Fr [192, 194] φ ψ219 := fr_tr hG209 hF219 (by decide)
                    refine ⟨by unfold hi; omega, by unfold hi; omega, fun q220 => ?_, fun q220 => ?_⟩
                    · skip
                      exact hQ ψ219 hI219 hG219
                    · skip
                      refine sf_222_192 (φ := ψ219) hI219  (fun z222 hp222 => ⟨rfl, rfl, z222, rfl, ?_⟩)
                      refine ⟨by unfold hi; omega, fun q223 => ?_, fun q223 => ?_⟩
                      · skip
                        exact hQ ψ219 hI219 hG219
                      · skip
                        refine sf_223_192 (φ := ψ219) hI219  (fun ψ225 hI225 hF225 => ⟨rfl, rfl, ?_⟩)
                        have hG225 : Fr [192, 194] φ ψ225 := fr_tr hG219 hF225 (by decide)
                        exact hQ ψ225 hI225 hG225
        · skip
          refine ⟨by omega, by omega, ?_⟩
          have i89 : Inv (hf_up ψ135 194 ((112 + z134).toNat) 0) := iv_upI (s := 112) (t := 118) (lo := 0) (u := 8) (z := 112 + z134) hI135 (by decide +kernel) (by omega) (by omega) (by omega) (by omega)
          have r89 : Fr [192, 194] φ (hf_up ψ135 194 ((112 + z134).toNat) 0) := fr_up hG135 (by decide)
          refine ⟨by unfold hi; omega, by unfold hi; omega, fun q228 => ?_, fun q228 => ?_⟩
          · skip
            refine ⟨by unfold hi; omega, by unfold hi; omega, fun q229 => ?_, fun q229 => ?_⟩
            · skip
              exact hQ (hf_up ψ135 194 ((112 + z134).toNat) 0) i89 r89
            · skip
              refine sf_222_192 (φ := (hf_up ψ135 194 ((112 + z134).toNat) 0)) i89  (fun z231 hp231 => ⟨rfl, rfl, z231, rfl, ?_⟩)
              refine ⟨by unfold hi; omega, fun q232 => ?_, fun q232 => ?_⟩
              · skip
                exact hQ (hf_up ψ135 194 ((112 + z134).toNat) 0) i89 r89
              · skip
                refine sf_223_192 (φ := (hf_up ψ135 194 ((112 + z134).toNat) 0)) i89  (fun ψ234 hI234 hF234 => ⟨rfl, rfl, ?_⟩)
                have hG234 : Fr [192, 194] φ ψ234 := fr_tr r89 hF234 (by decide)
                exact hQ ψ234 hI234 hG234
          · skip
            have f90 := iv_at (a := 194) (k := 3) (lo := 0) (u := 6) i89 (by decide +kernel)
            refine ⟨by unfold hi; omega, fun q236 => ?_, fun q236 => ?_⟩
            · skip
              refine ⟨by unfold hi; omega, by unfold hi; omega, fun q237 => ?_, fun q237 => ?_⟩
              · skip
                exact hQ (hf_up ψ135 194 ((112 + z134).toNat) 0) i89 r89
              · skip
                refine sf_222_192 (φ := (hf_up ψ135 194 ((112 + z134).toNat) 0)) i89  (fun z239 hp239 => ⟨rfl, rfl, z239, rfl, ?_⟩)
                refine ⟨by unfold hi; omega, fun q240 => ?_, fun q240 => ?_⟩
                · skip
                  exact hQ (hf_up ψ135 194 ((112 + z134).toNat) 0) i89 r89
                · skip
                  refine sf_223_192 (φ := (hf_up ψ135 194 ((112 + z134).toNat) 0)) i89  (fun ψ242 hI242 hF242 => ⟨rfl, rfl, ?_⟩)
                  have hG242 : Fr [192, 194] φ ψ242 := fr_tr r89 hF242 (by decide)
                  exact hQ ψ242 hI242 hG242
            · skip
              have f91 := iv_at (a := 194) (k := 2) (lo := 0) (u := 8) i89 (by decide +kernel)
              refine ⟨by unfold hi; omega, fun q244 => ?_, fun q244 => ?_⟩
              · skip
                refine ⟨by unfold hi; omega, by unfold hi; omega, fun q245 => ?_, fun q245 => ?_⟩
                · skip
                  exact hQ (hf_up ψ135 194 ((112 + z134).toNat) 0) i89 r89
                · skip
                  refine sf_222_192 (φ := (hf_up ψ135 194 ((112 + z134).toNat) 0)) i89  (fun z247 hp247 => ⟨rfl, rfl, z247, rfl, ?_⟩)
                  refine ⟨by unfold hi; omega, fun q248 => ?_, fun q248 => ?_⟩
                  · skip
                    exact hQ (hf_up ψ135 194 ((112 + z134).toNat) 0) i89 r89
                  · skip
                    refine sf_223_192 (φ := (hf_up ψ135 194 ((112 + z134).toNat) 0)) i89  (fun ψ250 hI250 hF250 => ⟨rfl, rfl, ?_⟩)
                    have hG250 : Fr [192, 194] φ ψ250 := fr_tr r89 hF250 (by decide)
                    exact hQ ψ250 hI250 hG250
              · skip
                refine sf_257_192 (φ := (hf_up ψ135 194 ((112 + z134).toNat) 0)) i89 (by omega) (by omega) (fun z252 ψ252 hI252 hF252 hp252 => ⟨rfl, z252, rfl, ?_⟩)
                have hG252 : Fr [192, 194] φ ψ252 := fr_tr r89 hF252 (by decide)
                have f92 := iv_at (a := 194) (k := 2) (lo := 0) (u := 8) hI252 (by decide +kernel)
                have f93 : ψ252 194 2 = ψ135 194 2 := (hF252 194 (by decide) 2).trans (hf_up_ne (fun q => absurd q.2 (by omega)))
                refine sf_257_192 (φ := ψ252) hI252 (by omega) (by omega) (fun z253 ψ253 hI253 hF253 hp253 => ⟨rfl, z253, rfl, ?_⟩)
                have hG253 : Fr [192, 194] φ ψ253 := fr_tr hG252 hF253 (by decide)
                refine sf_219_192 (φ := ψ253) hI253 (by omega) (by omega) (fun z254 hp254 => ⟨rfl, rfl, z254, rfl, ?_⟩)
                have f94 := iv_ar (a := 194) (s := 118) (t := 124) (lo := 0) (u := 6) (z := 118 + z252) hI253 (by decide +kernel) (by omega) (by omega)
                have f95 : ψ253 194 ((118 + z252).toNat) = ψ252 194 ((118 + z252).toNat) := (hF253 194 (by decide) ((118 + z252).toNat))
                have f96 := iv_ar (a := 194) (s := 118) (t := 124) (lo := 0) (u := 6) (z := 118 + z252) hI252 (by decide +kernel) (by omega) (by omega)
                have f97 : ψ252 194 ((118 + z252).toNat) = ψ135 194 ((118 + z252).toNat) := (hF252 194 (by decide) ((118 + z252).toNat)).trans (hf_up_ne (fun q => absurd q.2 (by omega)))
                have f98 := iv_ar (a := 194) (s := 118) (t := 124) (lo := 0) (u := 6) (z := 118 + z252) i89 (by decide +kernel) (by omega) (by omega)
                refine ⟨by unfold hi; omega, fun q255 => ?_, fun q255 => ?_⟩
                · skip
                  refine ⟨by unfold hi; omega, by unfold hi; omega, fun q256 => ?_, fun q256 => ?_⟩
                  · skip
                    exact hQ ψ253 hI253 hG253
                  · skip
                    refine sf_222_192 (φ := ψ253) hI253  (fun z258 hp258 => ⟨rfl, rfl, z258, rfl, ?_⟩)
                    refine ⟨by unfold hi; omega, fun q259 => ?_, fun q259 => ?_⟩
                    · skip
                      exact hQ ψ253 hI253 hG253
                    · skip
                      refine sf_223_192 (φ := ψ253) hI253  (fun ψ261 hI261 hF261 => ⟨rfl, rfl, ?_⟩)
                      have hG261 : Fr [192, 194] φ ψ261 := fr_tr hG253 hF261 (by decide)
                      exact hQ ψ261 hI261 hG261
                · skip
                  refine sf_220_192 (φ := ψ253) hI253 (by omega) (by omega) (by omega) (by omega) (by omega) (fun ψ263 hI263 hF263 => ⟨rfl, rfl, ?_⟩)
                  have hG263 : Fr [192, 194] φ ψ263 := fr_tr hG253 hF263 (by decide)
                  refine ⟨by unfold hi; omega, by unfold hi; omega, fun q264 => ?_, fun q264 => ?_⟩
                  · skip
                    exact hQ ψ263 hI263 hG263
                  · skip
                    refine sf_222_192 (φ := ψ263) hI263  (fun z266 hp266 => ⟨rfl, rfl, z266, rfl, ?_⟩)
                    refine ⟨by unfold hi; omega, fun q267 => ?_, fun q267 => ?_⟩
                    · skip
                      exact hQ ψ263 hI263 hG263
                    · skip
                      refine sf_223_192 (φ := ψ263) hI263  (fun ψ269 hI269 hF269 => ⟨rfl, rfl, ?_⟩)
                      have hG269 : Fr [192, 194] φ ψ269 := fr_tr hG263 hF269 (by decide)
                      exact hQ ψ269 hI269 hG269
theorem sf_255_192_v7 {sc : List Int} {d : Nat} {φ : hf_F} {x : Nat} {Q : Option jm_V → hf_F → Nat → Prop} {L : jm_L} {l1 l2 l3 : Int} (g0 : jm_get L 0 = some (2, 192)) (g1 : jm_get L 1 = some (0, l1)) (g2 : jm_get L 2 = some (0, l2)) (g3 : jm_get L 3 = some (0, l3))
    (H : hi l3 ∧ hi l1 ∧ (l1 ≤ l3 → Q (some (0, l3)) φ x) ∧ (¬ l1 ≤ l3 → hi 1000 ∧ (1000 ≤ (jm_n (φ 194 99)) → Q (some (0, l3)) φ x) ∧ (¬ 1000 ≤ (jm_n (φ 194 99)) → hw sc (d + 2) 256 0 [(0, (2, 192))] [] φ x (fun r ψ5 y5 => y5 = x ∧ (r = none ∧ (hw sc (d + 2) 226 0 [(0, (2, 192))] [] ψ5 x (fun r ψ6 y6 => y6 = x ∧ (r = none ∧ (hw sc (d + 3) 255 7 (jm_st1 L 3 (0, l3 + 1)) [] ψ6 x Q))))))))) :
    hw sc (d + 3) 255 7 L [] φ x Q := by
  refine hw_ld (b := 3) (e := 0) (by decide +kernel) g3 ?_
  refine hw_ld (b := 1) (e := 0) (by decide +kernel) g1 ?_
  obtain ⟨hz1, hy1, ht1, hf1⟩ := H
  refine hw_if2 (a0 := 0) (b := 3) (e := 39) (by decide +kernel) hz1 hy1 (fun q => ?_) (fun q => ?_)
  · have H := ht1 q
    refine hw_ld (b := 3) (e := 0) (by decide +kernel) g3 ?_
    exact hw_ret (a0 := 0) (e := 0) (by decide +kernel) (Or.inl rfl) H
  · have H := hf1 q
    refine hw_ald (b := 0) (e := 0) (by decide +kernel) g0 (by decide) ?_
    refine hr_gr (w := 194) (b := 12) (e := 6) 192 rfl (by decide +kernel) ?_
    refine hw_k (c := 99) (b := 1) (e := 2) (by decide +kernel) ?_
    refine hr_al (b := 0) (a0 := 0) (e := 0) (n := 361) (w := φ 194 99) 194 rfl (by decide +kernel) (by decide) (by decide) (by decide) rfl ?_
    refine hw_k (c := 1000) (b := 2) (e := 3) (by decide +kernel) ?_
    obtain ⟨hz3, ht3, hf3⟩ := H
    refine hw_if2l (a0 := 0) (b := 3) (e := 39) (by decide +kernel) hz3 (fun q => ?_) (fun q => ?_)
    · have H := ht3 q
      refine hw_ld (b := 3) (e := 0) (by decide +kernel) g3 ?_
      exact hw_ret (a0 := 0) (e := 0) (by decide +kernel) (Or.inl rfl) H
    · have H := hf3 q
      refine hw_ald (b := 0) (e := 0) (by decide +kernel) g0 (by decide) ?_
      refine hr_call (a0 := 22) (b := 256) (e := 1) (nl := 4) (As := []) (R := []) 192 rfl (by decide +kernel) rfl rfl (Nat.le_of_ble_eq_true rfl) (Nat.le_of_ble_eq_true rfl) ?_
      refine hw_mono H ?_
      rintro r ψ5 y5 ⟨hyx, hr, H⟩
      subst hyx
      subst hr
      refine ⟨hnen, ?_⟩
      show hw sc (d + 3) 255 29 L [] ψ5 y5 Q
      refine hw_ald (b := 0) (e := 0) (by decide +kernel) g0 (by decide) ?_
      refine hr_call (a0 := 22) (b := 226) (e := 1) (nl := 3) (As := []) (R := []) 192 rfl (by decide +kernel) rfl rfl (Nat.le_of_ble_eq_true rfl) (Nat.le_of_ble_eq_true rfl) ?_
      refine hw_mono H ?_
      rintro r ψ6 y6 ⟨hyx, hr, H⟩
      subst hyx
      subst hr
      refine ⟨hnen, ?_⟩
      show hw sc (d + 3) 255 33 L [] ψ6 y6 Q
      refine hw_inc (L' := (jm_st1 L 3 (0, l3 + 1))) (c := 1) (b := 3) (e := 0) (by decide +kernel) g3 rfl ?_
      refine hw_goto (a0 := 0) (b := 0) (e := 7) (by decide +kernel) ?_
      exact H
theorem sf_255_192_l7 {sc : List Int} {d x : Nat} {Q : Option jm_V → hf_F → Nat → Prop} : ∀ (n : Nat) (φ : hf_F) (L : jm_L) (l1 l2 l3 : Int), jm_get L 0 = some (2, 192) → jm_get L 1 = some (0, l1) → jm_get L 2 = some (0, l2) → jm_get L 3 = some (0, l3) → Inv φ → 60 - l3 < (n : Int) → 1 ≤ l1 → l1 ≤ 60 → 0 ≤ l3 → l3 ≤ 60 → (∀ (r : Int) (ψ : hf_F), Inv ψ → Fr [192, 194] φ ψ → True → Q (some (0, r)) ψ x) → hw sc (d + 3) 255 7 L [] φ x Q := by
  intro n
  induction n with
  | zero =>
    intro φ L l1 l2 l3 g0 g1 g2 g3 hI hM b1a b1b b3a b3b hQ
    exfalso
    omega
  | succ n ih =>
    intro φ L l1 l2 l3 g0 g1 g2 g3 hI hM b1a b1b b3a b3b hQ
    refine sf_255_192_v7 g0 g1 g2 g3 ?_
    refine ⟨by unfold hi; omega, by unfold hi; omega, fun q1 => ?_, fun q1 => ?_⟩
    · skip
      exact hQ l3 φ hI (fr_rf) trivial
    · skip
      have f1 := hr_n (φ 194 99)
      refine ⟨by unfold hi; omega, fun q3 => ?_, fun q3 => ?_⟩
      · skip
        exact hQ l3 φ hI (fr_rf) trivial
      · skip
        refine sf_256_192 (φ := φ) hI  (fun ψ5 hI5 hF5 => ⟨rfl, rfl, ?_⟩)
        have hG5 : Fr [192, 194] φ ψ5 := fr_tr (fr_rf) hF5 (by decide)
        refine sf_226_192 (φ := ψ5) hI5  (fun ψ6 hI6 hF6 => ⟨rfl, rfl, ?_⟩)
        have hG6 : Fr [192, 194] φ ψ6 := fr_tr hG5 hF6 (by decide)
        exact ih ψ6 (jm_st1 L 3 (0, l3 + 1)) l1 l2 (l3 + 1) (get_st1 g0 (by decide) (fun q => absurd q.1 (by decide))) (get_st1 g1 (by decide) (fun q => absurd q.1 (by decide))) (get_st1 g2 (by decide) (fun q => tg0 q.2)) get_st1e hI6 (by omega) (by omega) (by omega) (by omega) (by omega) (fun rr χ hIχ hFχ hpχ => hQ rr χ hIχ (fr_tr hG6 hFχ (by decide)) hpχ)
theorem sf_255_192_v {sc : List Int} {d : Nat} {φ : hf_F} {x : Nat} {Q : Option jm_V → hf_F → Nat → Prop} {v1 v2 : Int}
    (H : hw sc (d + 3) 255 7 (jm_st1 [(0, (2, 192)), (1, (0, v1)), (2, (0, v2))] 3 (0, 0)) [] (hf_up φ 192 29 v2) x Q) :
    hw sc (d + 3) 255 0 [(0, (2, 192)), (1, (0, v1)), (2, (0, v2))] [] φ x Q := by
  refine hw_ald (b := 0) (e := 0) (by decide +kernel) rfl (by decide) ?_
  refine hw_ld (b := 2) (e := 0) (by decide +kernel) rfl ?_
  refine hr_pi (b := 12) (e := 29) 192 rfl (by decide +kernel) ?_
  refine hw_k (c := 0) (b := 0) (e := 1) (by decide +kernel) ?_
  refine hw_st (L' := (jm_st1 [(0, (2, 192)), (1, (0, v1)), (2, (0, v2))] 3 (0, 0))) (b := 3) (e := 0) (by decide +kernel) rfl ?_
  exact H
theorem sf_255_192 {sc : List Int} {d : Nat} {φ : hf_F} {x : Nat} {Q : Option jm_V → hf_F → Nat → Prop} {v1 v2 : Int} (hI : Inv φ) (h1a : 1 ≤ v1) (h1b : v1 ≤ 60) (hQ : ∀ (r : Int) (ψ : hf_F), Inv ψ → Fr [192, 194] φ ψ → True → Q (some (0, r)) ψ x) : hw sc (d + 3) 255 0 [(0, (2, 192)), (1, (0, v1)), (2, (0, v2))] [] φ x Q := by
  apply sf_255_192_v
  have i1 : Inv (hf_up φ 192 29 v2) := iv_upn hI (by decide) (by decide) (by decide +kernel)
  have r1 : Fr [192, 194] φ (hf_up φ 192 29 v2) := fr_up (fr_rf) (by decide)
  exact sf_255_192_l7 ((60 - 0 : Int).toNat + 1) (hf_up φ 192 29 v2) (jm_st1 [(0, (2, 192)), (1, (0, v1)), (2, (0, v2))] 3 (0, 0)) v1 v2 0 (get_st1 rfl (by decide) (fun q => absurd q.1 (by decide))) (get_st1 rfl (by decide) (fun q => absurd q.1 (by decide))) (get_st1 rfl (by decide) (fun q => tg0 q.2)) get_st1e i1 (by omega) (by omega) (by omega) (by omega) (by omega) (fun rr χ hIχ hFχ hpχ => hQ rr χ hIχ (fr_tr r1 hFχ (by decide)) hpχ)
theorem sf_254_192_v {sc : List Int} {d : Nat} {φ : hf_F} {x : Nat} {Q : Option jm_V → hf_F → Nat → Prop} {v1 v2 : Int}
    (H : hw sc (d + 3) 188 0 [(0, (0, v1)), (1, (0, 1)), (2, (0, 60))] [] (hf_up φ 192 0 0) x (fun r ψ1 y1 => y1 = x ∧ (hf_up φ 192 0 0) = ψ1 ∧ (∃ z1 : Int, r = some (0, z1) ∧ (hi z1 ∧ (¬ z1 = 0 → hi 1000 ∧ (1000 ≤ (jm_n (φ 194 99)) → hw sc (d + 3) 255 0 [(0, (2, 192)), (1, (0, v1)), (2, (0, v2))] [] (hf_up φ 192 0 0) x (fun r ψ4 y4 => y4 = x ∧ (∃ z4 : Int, r = some (0, z4) ∧ (Q (some (0, z4)) ψ4 x)))) ∧ (¬ 1000 ≤ (jm_n (φ 194 99)) → hw sc (d + 3) 216 0 [(0, (2, 192))] [] (hf_up φ 192 0 0) x (fun r ψ6 y6 => y6 = x ∧ (r = none ∧ (hw sc (d + 3) 255 0 [(0, (2, 192)), (1, (0, v1)), (2, (0, v2))] [] ψ6 x (fun r ψ7 y7 => y7 = x ∧ (∃ z7 : Int, r = some (0, z7) ∧ (Q (some (0, z7)) ψ7 x)))))))) ∧ (¬ (¬ z1 = 0) → Q (some (0, (-1 : Int))) (hf_up φ 192 0 0) x))))) :
    hw sc (d + 4) 254 0 [(0, (2, 192)), (1, (0, v1)), (2, (0, v2))] [] φ x Q := by
  refine hw_ald (b := 0) (e := 0) (by decide +kernel) rfl (by decide) ?_
  refine hw_k (c := 0) (b := 0) (e := 1) (by decide +kernel) ?_
  refine hr_pi (b := 12) (e := 0) 192 rfl (by decide +kernel) ?_
  refine hw_ld (b := 1) (e := 0) (by decide +kernel) rfl ?_
  refine hw_k (c := 1) (b := 0) (e := 1) (by decide +kernel) ?_
  refine hw_k (c := 60) (b := 1) (e := 2) (by decide +kernel) ?_
  refine hr_calls (b := 188) (e := 3) (nl := 3) (As := [(0, v1), (0, 1), (0, 60)]) (R := []) (by decide +kernel) rfl rfl (Nat.le_of_ble_eq_true rfl) (Nat.le_of_ble_eq_true rfl) ?_
  refine hw_mono H ?_
  rintro r ψ1 y1 ⟨hyx, hψx, z1, hr, H⟩
  subst hyx
  subst hψx
  subst hr
  refine ⟨hne0, ?_⟩
  show hw sc (d + 4) 254 12 [(0, (2, 192)), (1, (0, v1)), (2, (0, v2))] [(0, z1)] (hf_up φ 192 0 0) y1 Q
  obtain ⟨hz2, ht2, hf2⟩ := H
  refine hw_if (a0 := 0) (b := 1) (e := 17) (by decide +kernel) hz2 (fun q => ?_) (fun q => ?_)
  · have H := ht2 q
    refine hw_ald (b := 0) (e := 0) (by decide +kernel) rfl (by decide) ?_
    refine hr_gr (w := 194) (b := 12) (e := 6) 192 rfl (by decide +kernel) ?_
    refine hw_k (c := 99) (b := 1) (e := 2) (by decide +kernel) ?_
    refine hr_al (b := 0) (a0 := 0) (e := 0) (n := 361) (w := φ 194 99) 194 rfl (by decide +kernel) (by decide) (by decide) (by decide) (hf_up_ne (fun q => absurd q.1 (by decide))) ?_
    refine hw_k (c := 1000) (b := 2) (e := 3) (by decide +kernel) ?_
    obtain ⟨hz3, ht3, hf3⟩ := H
    refine hw_if2l (a0 := 0) (b := 3) (e := 34) (by decide +kernel) hz3 (fun q => ?_) (fun q => ?_)
    · have H := ht3 q
      refine hw_ald (b := 0) (e := 0) (by decide +kernel) rfl (by decide) ?_
      refine hw_ld (b := 1) (e := 0) (by decide +kernel) rfl ?_
      refine hw_ld (b := 2) (e := 0) (by decide +kernel) rfl ?_
      refine hr_call (a0 := 22) (b := 255) (e := 3) (nl := 4) (As := [(0, v1), (0, v2)]) (R := []) 192 rfl (by decide +kernel) rfl rfl (Nat.le_of_ble_eq_true rfl) (Nat.le_of_ble_eq_true rfl) ?_
      refine hw_mono H ?_
      rintro r ψ4 y4 ⟨hyx, z4, hr, H⟩
      subst hyx
      subst hr
      refine ⟨hne0, ?_⟩
      show hw sc (d + 4) 254 40 [(0, (2, 192)), (1, (0, v1)), (2, (0, v2))] [(0, z4)] ψ4 y4 Q
      exact hw_ret (a0 := 0) (e := 0) (by decide +kernel) (Or.inl rfl) H
    · have H := hf3 q
      refine hw_ald (b := 0) (e := 0) (by decide +kernel) rfl (by decide) ?_
      refine hr_call (a0 := 22) (b := 216) (e := 1) (nl := 2) (As := []) (R := []) 192 rfl (by decide +kernel) rfl rfl (Nat.le_of_ble_eq_true rfl) (Nat.le_of_ble_eq_true rfl) ?_
      refine hw_mono H ?_
      rintro r ψ6 y6 ⟨hyx, hr, H⟩
      subst hyx
      subst hr
      refine ⟨hnen, ?_⟩
      show hw sc (d + 4) 254 34 [(0, (2, 192)), (1, (0, v1)), (2, (0, v2))] [] ψ6 y6 Q
      refine hw_ald (b := 0) (e := 0) (by decide +kernel) rfl (by decide) ?_
      refine hw_ld (b := 1) (e := 0) (by decide +kernel) rfl ?_
      refine hw_ld (b := 2) (e := 0) (by decide +kernel) rfl ?_
      refine hr_call (a0 := 22) (b := 255) (e := 3) (nl := 4) (As := [(0, v1), (0, v2)]) (R := []) 192 rfl (by decide +kernel) rfl rfl (Nat.le_of_ble_eq_true rfl) (Nat.le_of_ble_eq_true rfl) ?_
      refine hw_mono H ?_
      rintro r ψ7 y7 ⟨hyx, z7, hr, H⟩
      subst hyx
      subst hr
      refine ⟨hne0, ?_⟩
      show hw sc (d + 4) 254 40 [(0, (2, 192)), (1, (0, v1)), (2, (0, v2))] [(0, z7)] ψ7 y7 Q
      exact hw_ret (a0 := 0) (e := 0) (by decide +kernel) (Or.inl rfl) H
  · have H := hf2 q
    refine hw_k (c := (-1 : Int)) (b := 0) (e := 1) (by decide +kernel) ?_
    exact hw_ret (a0 := 0) (e := 0) (by decide +kernel) (Or.inl rfl) H
theorem sf_254_192 {sc : List Int} {d : Nat} {φ : hf_F} {x : Nat} {Q : Option jm_V → hf_F → Nat → Prop} {v1 v2 : Int} (hI : Inv φ) (h1a : (-2147483648 : Int) ≤ v1) (h1b : v1 ≤ 2147483647) (h2a : (-2147483648 : Int) ≤ v2) (h2b : v2 ≤ 2147483647) (hQ : ∀ (r : Int) (ψ : hf_F), Inv ψ → Fr [192, 194, 199] φ ψ → True → Q (some (0, r)) ψ x) : hw sc (d + 4) 254 0 [(0, (2, 192)), (1, (0, v1)), (2, (0, v2))] [] φ x Q := by
  apply sf_254_192_v
  have i1 : Inv (hf_up φ 192 0 0) := iv_up (lo := 0) (u := 1) hI (by decide +kernel) (by omega) (by omega)
  have r1 : Fr [192, 194, 199] φ (hf_up φ 192 0 0) := fr_up (fr_rf) (by decide)
  refine sf_188 (φ := (hf_up φ 192 0 0)) i1 (by omega) (by omega) (by omega) (by omega) (by omega) (by omega) (fun z1 hp1 => ⟨rfl, rfl, z1, rfl, ?_⟩)
  refine ⟨by unfold hi; omega, fun q2 => ?_, fun q2 => ?_⟩
  · skip
    have f2 := hr_n (φ 194 99)
    refine ⟨by unfold hi; omega, fun q3 => ?_, fun q3 => ?_⟩
    · skip
      refine sf_255_192 (φ := (hf_up φ 192 0 0)) i1 (by omega) (by omega) (fun z4 ψ4 hI4 hF4 hp4 => ⟨rfl, z4, rfl, ?_⟩)
      have hG4 : Fr [192, 194, 199] φ ψ4 := fr_tr r1 hF4 (by decide)
      exact hQ z4 ψ4 hI4 hG4 trivial
    · skip
      refine sf_216_192 (φ := (hf_up φ 192 0 0)) i1  (fun ψ6 hI6 hF6 => ⟨rfl, rfl, ?_⟩)
      have hG6 : Fr [192, 194, 199] φ ψ6 := fr_tr r1 hF6 (by decide)
      refine sf_255_192 (φ := ψ6) hI6 (by omega) (by omega) (fun z7 ψ7 hI7 hF7 hp7 => ⟨rfl, z7, rfl, ?_⟩)
      have hG7 : Fr [192, 194, 199] φ ψ7 := fr_tr hG6 hF7 (by decide)
      exact hQ z7 ψ7 hI7 hG7 trivial
  · skip
    exact hQ (-1 : Int) (hf_up φ 192 0 0) i1 r1 trivial
theorem sf_258_192_v35 {sc : List Int} {d : Nat} {φ : hf_F} {x : Nat} {Q : Option jm_V → hf_F → Nat → Prop} {L : jm_L} {l1 l2 l3 l4 l5 : Int} (g0 : jm_get L 0 = some (2, 192)) (g1 : jm_get L 1 = some (0, l1)) (g2 : jm_get L 2 = some (0, l2)) (g3 : jm_get L 3 = some (0, l3)) (g4 : jm_get L 4 = some (0, l4)) (g5 : jm_get L 5 = some (0, l5))
    (H : hi l5 ∧ hi l2 ∧ (l2 ≤ l5 → Q (some (0, l4)) φ x) ∧ (¬ l2 ≤ l5 → hw sc (d + 3) 255 0 [(0, (2, 192)), (1, (0, 30)), (2, (0, l3 + l5))] [] φ x (fun r ψ3 y3 => y3 = x ∧ (∃ z3 : Int, r = some (0, z3) ∧ (hw sc (d + 3) 235 0 [(0, (2, 192))] [] ψ3 x (fun r ψ4 y4 => y4 = x ∧ (r = none ∧ (hw sc (d + 4) 258 35 (jm_st1 (jm_st1 L 4 (0, l4 + (hb_and (hb_shr (ψ3 194 102) l1) 1))) 5 (0, l5 + 1)) [] ψ4 x Q)))))))) :
    hw sc (d + 4) 258 35 L [] φ x Q := by
  refine hw_ld (b := 5) (e := 1) (by decide +kernel) g5 ?_
  refine hw_ld (b := 2) (e := 0) (by decide +kernel) g2 ?_
  obtain ⟨hz1, hy1, ht1, hf1⟩ := H
  refine hw_if2 (a0 := 0) (b := 3) (e := 78) (by decide +kernel) hz1 hy1 (fun q => ?_) (fun q => ?_)
  · have H := ht1 q
    refine hw_ld (b := 4) (e := 1) (by decide +kernel) g4 ?_
    exact hw_ret (a0 := 0) (e := 0) (by decide +kernel) (Or.inl rfl) H
  · have H := hf1 q
    refine hw_ald (b := 0) (e := 0) (by decide +kernel) g0 (by decide) ?_
    refine hw_k (c := 30) (b := 1) (e := 2) (by decide +kernel) ?_
    refine hw_ld (b := 3) (e := 0) (by decide +kernel) g3 ?_
    refine hw_ld (b := 5) (e := 1) (by decide +kernel) g5 ?_
    refine hw_bin (w := l3 + l5) (a0 := 0) (b := 0) (e := 0) (by decide +kernel) rfl ?_
    refine hr_call (a0 := 22) (b := 255) (e := 3) (nl := 4) (As := [(0, 30), (0, l3 + l5)]) (R := []) 192 rfl (by decide +kernel) rfl rfl (Nat.le_of_ble_eq_true rfl) (Nat.le_of_ble_eq_true rfl) ?_
    refine hw_mono H ?_
    rintro r ψ3 y3 ⟨hyx, z3, hr, H⟩
    subst hyx
    subst hr
    refine ⟨hne0, ?_⟩
    show hw sc (d + 4) 258 51 L [(0, z3)] ψ3 y3 Q
    refine hw_pop (a0 := 0) (e := 0) (by decide +kernel) (by decide) ?_
    refine hw_ld (b := 4) (e := 1) (by decide +kernel) g4 ?_
    refine hw_ald (b := 0) (e := 0) (by decide +kernel) g0 (by decide) ?_
    refine hr_gr (w := 194) (b := 12) (e := 6) 192 rfl (by decide +kernel) ?_
    refine hw_k (c := 102) (b := 1) (e := 2) (by decide +kernel) ?_
    refine hr_al (b := 0) (a0 := 0) (e := 0) (n := 361) (w := ψ3 194 102) 194 rfl (by decide +kernel) (by decide) (by decide) (by decide) rfl ?_
    refine hw_ld (b := 1) (e := 0) (by decide +kernel) g1 ?_
    refine hw_bin (w := hb_shr (ψ3 194 102) l1) (a0 := 0) (b := 7) (e := 0) (by decide +kernel) rfl ?_
    refine hw_k (c := 1) (b := 0) (e := 1) (by decide +kernel) ?_
    refine hw_bin (w := hb_and (hb_shr (ψ3 194 102) l1) 1) (a0 := 0) (b := 3) (e := 0) (by decide +kernel) rfl ?_
    refine hw_bin (w := l4 + (hb_and (hb_shr (ψ3 194 102) l1) 1)) (a0 := 0) (b := 0) (e := 0) (by decide +kernel) rfl ?_
    refine hw_st (L' := (jm_st1 L 4 (0, l4 + (hb_and (hb_shr (ψ3 194 102) l1) 1)))) (b := 4) (e := 1) (by decide +kernel) rfl ?_
    refine hw_ald (b := 0) (e := 0) (by decide +kernel) (get_st1 g0 (by decide) (fun q => absurd q.1 (by decide))) (by decide) ?_
    refine hr_call (a0 := 22) (b := 235) (e := 1) (nl := 2) (As := []) (R := []) 192 rfl (by decide +kernel) rfl rfl (Nat.le_of_ble_eq_true rfl) (Nat.le_of_ble_eq_true rfl) ?_
    refine hw_mono H ?_
    rintro r ψ4 y4 ⟨hyx, hr, H⟩
    subst hyx
    subst hr
    refine ⟨hnen, ?_⟩
    show hw sc (d + 4) 258 72 (jm_st1 L 4 (0, l4 + (hb_and (hb_shr (ψ3 194 102) l1) 1))) [] ψ4 y4 Q
    refine hw_inc (L' := (jm_st1 (jm_st1 L 4 (0, l4 + (hb_and (hb_shr (ψ3 194 102) l1) 1))) 5 (0, l5 + 1))) (c := 1) (b := 5) (e := 0) (by decide +kernel) (get_st1 g5 (by decide) (fun q => absurd q.1 (by decide))) rfl ?_
    refine hw_goto (a0 := 0) (b := 0) (e := 35) (by decide +kernel) ?_
    exact H
theorem sf_258_192_l35 {sc : List Int} {d x : Nat} {Q : Option jm_V → hf_F → Nat → Prop} : ∀ (n : Nat) (φ : hf_F) (L : jm_L) (l1 l2 l3 l4 l5 : Int), jm_get L 0 = some (2, 192) → jm_get L 1 = some (0, l1) → jm_get L 2 = some (0, l2) → jm_get L 3 = some (0, l3) → jm_get L 4 = some (0, l4) → jm_get L 5 = some (0, l5) → Inv φ → 30 - l5 < (n : Int) → 0 ≤ l1 → l1 ≤ 7 → 1 ≤ l2 → l2 ≤ 30 → 0 ≤ l5 → l5 ≤ 30 → (∀ (r : Int) (ψ : hf_F), Inv ψ → Fr [192, 194, 200] φ ψ → True → Q (some (0, r)) ψ x) → hw sc (d + 4) 258 35 L [] φ x Q := by
  intro n
  induction n with
  | zero =>
    intro φ L l1 l2 l3 l4 l5 g0 g1 g2 g3 g4 g5 hI hM b1a b1b b2a b2b b5a b5b hQ
    exfalso
    omega
  | succ n ih =>
    intro φ L l1 l2 l3 l4 l5 g0 g1 g2 g3 g4 g5 hI hM b1a b1b b2a b2b b5a b5b hQ
    refine sf_258_192_v35 g0 g1 g2 g3 g4 g5 ?_
    refine ⟨by unfold hi; omega, by unfold hi; omega, fun q1 => ?_, fun q1 => ?_⟩
    · skip
      exact hQ l4 φ hI (fr_rf) trivial
    · skip
      refine sf_255_192 (φ := φ) hI (by omega) (by omega) (fun z3 ψ3 hI3 hF3 hp3 => ⟨rfl, z3, rfl, ?_⟩)
      have hG3 : Fr [192, 194, 200] φ ψ3 := fr_tr (fr_rf) hF3 (by decide)
      have f1 := iv_at (a := 194) (k := 102) (lo := (-2147483648 : Int)) (u := 2147483647) hI3 (by decide +kernel)
      have f2 := hr_shr0 (ψ3 194 102) l1
      have f3 := hr_shr (ψ3 194 102) l1
      have f4 := hr_and0 (hb_shr (ψ3 194 102) l1) 1
      have f5 := hr_and1 (hb_shr (ψ3 194 102) l1)
      have f6 := hr_and (hb_shr (ψ3 194 102) l1) 1
      refine sf_235_192 (φ := ψ3) hI3  (fun ψ4 hI4 hF4 => ⟨rfl, rfl, ?_⟩)
      have hG4 : Fr [192, 194, 200] φ ψ4 := fr_tr hG3 hF4 (by decide)
      exact ih ψ4 (jm_st1 (jm_st1 L 4 (0, l4 + (hb_and (hb_shr (ψ3 194 102) l1) 1))) 5 (0, l5 + 1)) l1 l2 l3 (l4 + (hb_and (hb_shr (ψ3 194 102) l1) 1)) (l5 + 1) (get_st1 (get_st1 g0 (by decide) (fun q => absurd q.1 (by decide))) (by decide) (fun q => absurd q.1 (by decide))) (get_st1 (get_st1 g1 (by decide) (fun q => absurd q.1 (by decide))) (by decide) (fun q => absurd q.1 (by decide))) (get_st1 (get_st1 g2 (by decide) (fun q => absurd q.1 (by decide))) (by decide) (fun q => absurd q.1 (by decide))) (get_st1 (get_st1 g3 (by decide) (fun q => tg0 q.2)) (by decide) (fun q => absurd q.1 (by decide))) (get_st1 get_st1e (by decide) (fun q => tg0 q.2)) get_st1e hI4 (by omega) (by omega) (by omega) (by omega) (by omega) (by omega) (by omega) (fun rr χ hIχ hFχ hpχ => hQ rr χ hIχ (fr_tr hG4 hFχ (by decide)) hpχ)
theorem sf_258_192_v {sc : List Int} {d : Nat} {φ : hf_F} {x : Nat} {Q : Option jm_V → hf_F → Nat → Prop} {v1 v2 v3 : Int}
    (H : hw sc (d + 3) 211 0 [(0, (2, 192)), (1, (0, v1))] [] (hf_up φ 192 0 0) x (fun r ψ1 y1 => y1 = x ∧ (hf_up φ 192 0 0) = ψ1 ∧ (∃ z1 : Int, r = some (0, z1) ∧ (hi z1 ∧ (z1 = 0 → Q (some (0, (-1 : Int))) (hf_up φ 192 0 0) x) ∧ (¬ z1 = 0 → hw sc (d + 3) 188 0 [(0, (0, v2)), (1, (0, 1)), (2, (0, 30))] [] (hf_up φ 192 0 0) x (fun r ψ4 y4 => y4 = x ∧ (hf_up φ 192 0 0) = ψ4 ∧ (∃ z4 : Int, r = some (0, z4) ∧ (hi z4 ∧ (¬ z4 = 0 → hw sc (d + 3) 233 0 [(0, (2, 192))] [] (hf_up φ 192 0 0) x (fun r ψ6 y6 => y6 = x ∧ (r = none ∧ (hw sc (d + 4) 258 35 (jm_st1 (jm_st1 [(0, (2, 192)), (1, (0, v1)), (2, (0, v2)), (3, (0, v3))] 4 (0, 0)) 5 (0, 0)) [] ψ6 x Q)))) ∧ (¬ (¬ z4 = 0) → Q (some (0, (-1 : Int))) (hf_up φ 192 0 0) x))))))))) :
    hw sc (d + 4) 258 0 [(0, (2, 192)), (1, (0, v1)), (2, (0, v2)), (3, (0, v3))] [] φ x Q := by
  refine hw_ald (b := 0) (e := 0) (by decide +kernel) rfl (by decide) ?_
  refine hw_k (c := 0) (b := 0) (e := 1) (by decide +kernel) ?_
  refine hr_pi (b := 12) (e := 0) 192 rfl (by decide +kernel) ?_
  refine hw_ald (b := 0) (e := 0) (by decide +kernel) rfl (by decide) ?_
  refine hw_ld (b := 1) (e := 0) (by decide +kernel) rfl ?_
  refine hr_call (a0 := 22) (b := 211) (e := 2) (nl := 2) (As := [(0, v1)]) (R := []) 192 rfl (by decide +kernel) rfl rfl (Nat.le_of_ble_eq_true rfl) (Nat.le_of_ble_eq_true rfl) ?_
  refine hw_mono H ?_
  rintro r ψ1 y1 ⟨hyx, hψx, z1, hr, H⟩
  subst hyx
  subst hψx
  subst hr
  refine ⟨hne0, ?_⟩
  show hw sc (d + 4) 258 10 [(0, (2, 192)), (1, (0, v1)), (2, (0, v2)), (3, (0, v3))] [(0, z1)] (hf_up φ 192 0 0) y1 Q
  obtain ⟨hz2, ht2, hf2⟩ := H
  refine hw_if (a0 := 0) (b := 0) (e := 23) (by decide +kernel) hz2 (fun q => ?_) (fun q => ?_)
  · have H := ht2 q
    refine hw_k (c := (-1 : Int)) (b := 0) (e := 1) (by decide +kernel) ?_
    exact hw_ret (a0 := 0) (e := 0) (by decide +kernel) (Or.inl rfl) H
  · have H := hf2 q
    refine hw_ld (b := 2) (e := 0) (by decide +kernel) rfl ?_
    refine hw_k (c := 1) (b := 0) (e := 1) (by decide +kernel) ?_
    refine hw_k (c := 30) (b := 1) (e := 2) (by decide +kernel) ?_
    refine hr_calls (b := 188) (e := 3) (nl := 3) (As := [(0, v2), (0, 1), (0, 30)]) (R := []) (by decide +kernel) rfl rfl (Nat.le_of_ble_eq_true rfl) (Nat.le_of_ble_eq_true rfl) ?_
    refine hw_mono H ?_
    rintro r ψ4 y4 ⟨hyx, hψx, z4, hr, H⟩
    subst hyx
    subst hψx
    subst hr
    refine ⟨hne0, ?_⟩
    show hw sc (d + 4) 258 20 [(0, (2, 192)), (1, (0, v1)), (2, (0, v2)), (3, (0, v3))] [(0, z4)] (hf_up φ 192 0 0) y4 Q
    obtain ⟨hz5, ht5, hf5⟩ := H
    refine hw_if (a0 := 0) (b := 1) (e := 25) (by decide +kernel) hz5 (fun q => ?_) (fun q => ?_)
    · have H := ht5 q
      refine hw_ald (b := 0) (e := 0) (by decide +kernel) rfl (by decide) ?_
      refine hr_call (a0 := 22) (b := 233) (e := 1) (nl := 2) (As := []) (R := []) 192 rfl (by decide +kernel) rfl rfl (Nat.le_of_ble_eq_true rfl) (Nat.le_of_ble_eq_true rfl) ?_
      refine hw_mono H ?_
      rintro r ψ6 y6 ⟨hyx, hr, H⟩
      subst hyx
      subst hr
      refine ⟨hnen, ?_⟩
      show hw sc (d + 4) 258 29 [(0, (2, 192)), (1, (0, v1)), (2, (0, v2)), (3, (0, v3))] [] ψ6 y6 Q
      refine hw_k (c := 0) (b := 0) (e := 1) (by decide +kernel) ?_
      refine hw_st (L' := (jm_st1 [(0, (2, 192)), (1, (0, v1)), (2, (0, v2)), (3, (0, v3))] 4 (0, 0))) (b := 4) (e := 1) (by decide +kernel) rfl ?_
      refine hw_k (c := 0) (b := 0) (e := 1) (by decide +kernel) ?_
      refine hw_st (L' := (jm_st1 (jm_st1 [(0, (2, 192)), (1, (0, v1)), (2, (0, v2)), (3, (0, v3))] 4 (0, 0)) 5 (0, 0))) (b := 5) (e := 1) (by decide +kernel) rfl ?_
      exact H
    · have H := hf5 q
      refine hw_k (c := (-1 : Int)) (b := 0) (e := 1) (by decide +kernel) ?_
      exact hw_ret (a0 := 0) (e := 0) (by decide +kernel) (Or.inl rfl) H
theorem sf_258_192 {sc : List Int} {d : Nat} {φ : hf_F} {x : Nat} {Q : Option jm_V → hf_F → Nat → Prop} {v1 v2 v3 : Int} (hI : Inv φ) (h1a : (-2147483648 : Int) ≤ v1) (h1b : v1 ≤ 2147483647) (h2a : (-2147483648 : Int) ≤ v2) (h2b : v2 ≤ 2147483647) (h3a : (-2147483648 : Int) ≤ v3) (h3b : v3 ≤ 2147483647) (hQ : ∀ (r : Int) (ψ : hf_F), Inv ψ → Fr [192, 194, 200] φ ψ → True → Q (some (0, r)) ψ x) : hw sc (d + 4) 258 0 [(0, (2, 192)), (1, (0, v1)), (2, (0, v2)), (3, (0, v3))] [] φ x Q := by
  apply sf_258_192_v
  have i1 : Inv (hf_up φ 192 0 0) := iv_up (lo := 0) (u := 1) hI (by decide +kernel) (by omega) (by omega)
  have r1 : Fr [192, 194, 200] φ (hf_up φ 192 0 0) := fr_up (fr_rf) (by decide)
  refine sf_211_192 (φ := (hf_up φ 192 0 0)) i1 (by omega) (by omega) (fun z1 hp1 => ⟨rfl, rfl, z1, rfl, ?_⟩)
  have f2 : (hf_up φ 192 0 0) 194 4 = φ 194 4 := (hf_up_ne (fun q => absurd q.1 (by decide)))
  have f3 := iv_at (a := 194) (k := 4) (lo := 0) (u := 8) hI (by decide +kernel)
  refine ⟨by unfold hi; omega, fun q2 => ?_, fun q2 => ?_⟩
  · skip
    exact hQ (-1 : Int) (hf_up φ 192 0 0) i1 r1 trivial
  · skip
    refine sf_188 (φ := (hf_up φ 192 0 0)) i1 (by omega) (by omega) (by omega) (by omega) (by omega) (by omega) (fun z4 hp4 => ⟨rfl, rfl, z4, rfl, ?_⟩)
    refine ⟨by unfold hi; omega, fun q5 => ?_, fun q5 => ?_⟩
    · skip
      refine sf_233_192 (φ := (hf_up φ 192 0 0)) i1  (fun ψ6 hI6 hF6 => ⟨rfl, rfl, ?_⟩)
      have hG6 : Fr [192, 194, 200] φ ψ6 := fr_tr r1 hF6 (by decide)
      exact sf_258_192_l35 ((30 - 0 : Int).toNat + 1) ψ6 (jm_st1 (jm_st1 [(0, (2, 192)), (1, (0, v1)), (2, (0, v2)), (3, (0, v3))] 4 (0, 0)) 5 (0, 0)) v1 v2 v3 0 0 (get_st1 (get_st1 rfl (by decide) (fun q => absurd q.1 (by decide))) (by decide) (fun q => absurd q.1 (by decide))) (get_st1 (get_st1 rfl (by decide) (fun q => absurd q.1 (by decide))) (by decide) (fun q => absurd q.1 (by decide))) (get_st1 (get_st1 rfl (by decide) (fun q => absurd q.1 (by decide))) (by decide) (fun q => absurd q.1 (by decide))) (get_st1 (get_st1 rfl (by decide) (fun q => tg0 q.2)) (by decide) (fun q => absurd q.1 (by decide))) (get_st1 get_st1e (by decide) (fun q => tg0 q.2)) get_st1e hI6 (by omega) (by omega) (by omega) (by omega) (by omega) (by omega) (by omega) (fun rr χ hIχ hFχ hpχ => hQ rr χ hIχ (fr_tr hG6 hFχ (by decide)) hpχ)
    · skip
      exact hQ (-1 : Int) (hf_up φ 192 0 0) i1 r1 trivial
theorem sf_261_192_v {sc : List Int} {d : Nat} {φ : hf_F} {x : Nat} {Q : Option jm_V → hf_F → Nat → Prop} {v1 v2 v3 : Int}
    (H : hi v1 ∧ (v1 = 0 → hw sc (d + 3) 215 0 [(0, (2, 192)), (1, (0, v2)), (2, (0, v3))] [] φ x (fun r ψ2 y2 => y2 = x ∧ φ = ψ2 ∧ (∃ z2 : Int, r = some (0, z2) ∧ (hi z2 ∧ (¬ z2 = 0 → hi z2 ∧ (z2 ≤ 0 → Q (some (0, 0)) φ x) ∧ (¬ z2 ≤ 0 → Q (some (0, (10 * v1) + z2)) φ x)) ∧ (¬ (¬ z2 = 0) → 0 ≤ (112 + v2) ∧ (112 + v2) < 361 ∧ (hi z2 ∧ (z2 ≤ 0 → Q (some (0, 0)) (hf_up φ 194 ((112 + v2).toNat) (v3 + 1)) x) ∧ (¬ z2 ≤ 0 → Q (some (0, (10 * v1) + z2)) (hf_up φ 194 ((112 + v2).toNat) (v3 + 1)) x))))))) ∧ (v1 = 1 → 0 ≤ (112 + v2) ∧ (112 + v2) < 361 ∧ (hi (φ 194 ((112 + v2).toNat)) ∧ (¬ (φ 194 ((112 + v2).toNat)) = 0 → 0 ≤ (112 + v2) ∧ (112 + v2) < 361 ∧ (Q (some (0, 0)) (hf_up φ 194 ((112 + v2).toNat) 0) x)) ∧ (¬ (¬ (φ 194 ((112 + v2).toNat)) = 0) → 0 ≤ (112 + v2) ∧ (112 + v2) < 361 ∧ (Q (some (0, (10 * v1) + 1)) (hf_up φ 194 ((112 + v2).toNat) 0) x)))) ∧ (v1 = 2 → hw sc (d + 3) 219 0 [(0, (2, 192)), (1, (0, v2))] [] φ x (fun r ψ19 y19 => y19 = x ∧ φ = ψ19 ∧ (∃ z19 : Int, r = some (0, z19) ∧ (hi z19 ∧ (¬ z19 = 0 → hi z19 ∧ (z19 ≤ 0 → Q (some (0, 0)) φ x) ∧ (¬ z19 ≤ 0 → Q (some (0, (10 * v1) + z19)) φ x)) ∧ (¬ (¬ z19 = 0) → hw sc (d + 3) 220 0 [(0, (2, 192)), (1, (0, v2)), (2, (0, v3))] [] φ x (fun r ψ24 y24 => y24 = x ∧ (r = none ∧ (hi z19 ∧ (z19 ≤ 0 → Q (some (0, 0)) ψ24 x) ∧ (¬ z19 ≤ 0 → Q (some (0, (10 * v1) + z19)) ψ24 x))))))))) ∧ (v1 = 3 → hw sc (d + 3) 222 0 [(0, (2, 192))] [] φ x (fun r ψ28 y28 => y28 = x ∧ φ = ψ28 ∧ (∃ z28 : Int, r = some (0, z28) ∧ (hi z28 ∧ (¬ z28 = 0 → hi z28 ∧ (z28 ≤ 0 → Q (some (0, 0)) φ x) ∧ (¬ z28 ≤ 0 → Q (some (0, (10 * v1) + z28)) φ x)) ∧ (¬ (¬ z28 = 0) → hw sc (d + 3) 223 0 [(0, (2, 192))] [] φ x (fun r ψ33 y33 => y33 = x ∧ (r = none ∧ (hi z28 ∧ (z28 ≤ 0 → Q (some (0, 0)) ψ33 x) ∧ (¬ z28 ≤ 0 → Q (some (0, (10 * v1) + z28)) ψ33 x))))))))) ∧ ((v1 < 0 ∨ 4 ≤ v1) → hi 1000 ∧ ((jm_n ((φ 194 99) + v2)) ≤ 1000 → hw sc (d + 3) 225 0 [(0, (2, 192)), (1, (0, v2))] [] φ x (fun r ψ39 y39 => y39 = x ∧ (∃ z39 : Int, r = some (0, z39) ∧ (Q (some (0, 0)) ψ39 x)))) ∧ (¬ (jm_n ((φ 194 99) + v2)) ≤ 1000 → Q (some (0, (10 * v1) + 1)) φ x))) :
    hw sc (d + 4) 261 0 [(0, (2, 192)), (1, (0, v1)), (2, (0, v2)), (3, (0, v3))] [] φ x Q := by
  refine hw_k (c := 0) (b := 0) (e := 1) (by decide +kernel) ?_
  refine hw_st (L' := (jm_st1 [(0, (2, 192)), (1, (0, v1)), (2, (0, v2)), (3, (0, v3))] 4 (0, 0))) (b := 4) (e := 1) (by decide +kernel) rfl ?_
  refine hw_ld (b := 1) (e := 0) (by decide +kernel) (get_st1 rfl (by decide) (fun q => absurd q.1 (by decide))) ?_
  obtain ⟨hz1, H⟩ := H
  refine hr_tsw (T := [36, 64, 96, 117]) (lo := 0) (nn := 4) (b := 135) (e := 12) (by decide +kernel) rfl hz1 ?_ ?_
  · intro q
    have H := H.2.2.2.2 q
    refine hw_ald (b := 0) (e := 0) (by decide +kernel) (get_st1 rfl (by decide) (fun q => absurd q.1 (by decide))) (by decide) ?_
    refine hr_gr (w := 194) (b := 12) (e := 6) 192 rfl (by decide +kernel) ?_
    refine hw_k (c := 99) (b := 1) (e := 2) (by decide +kernel) ?_
    refine hr_al (b := 0) (a0 := 0) (e := 0) (n := 361) (w := φ 194 99) 194 rfl (by decide +kernel) (by decide) (by decide) (by decide) rfl ?_
    refine hw_ld (b := 2) (e := 0) (by decide +kernel) (get_st1 rfl (by decide) (fun q => absurd q.1 (by decide))) ?_
    refine hw_bin (w := (φ 194 99) + v2) (a0 := 0) (b := 0) (e := 0) (by decide +kernel) rfl ?_
    refine hw_k (c := 1000) (b := 2) (e := 3) (by decide +kernel) ?_
    obtain ⟨hz37, ht37, hf37⟩ := H
    refine hw_if2l (a0 := 0) (b := 5) (e := 154) (by decide +kernel) hz37 (fun q => ?_) (fun q => ?_)
    · have H := ht37 q
      refine hw_k (c := 0) (b := 0) (e := 1) (by decide +kernel) ?_
      refine hw_st (L' := (jm_st1 (jm_st1 [(0, (2, 192)), (1, (0, v1)), (2, (0, v2)), (3, (0, v3))] 4 (0, 0)) 4 (0, 0))) (b := 4) (e := 1) (by decide +kernel) rfl ?_
      refine hw_ld (b := 4) (e := 1) (by decide +kernel) get_st1e ?_
      refine hw_if (a0 := 0) (b := 1) (e := 168) (by decide +kernel) (by unfold hi; omega) (fun q => absurd (show ¬ (0 : Int) = 0 from q) (by decide)) (fun _ => ?_)
      refine hw_ald (b := 0) (e := 0) (by decide +kernel) (get_st1 (get_st1 rfl (by decide) (fun q => absurd q.1 (by decide))) (by decide) (fun q => absurd q.1 (by decide))) (by decide) ?_
      refine hw_ld (b := 2) (e := 0) (by decide +kernel) (get_st1 (get_st1 rfl (by decide) (fun q => absurd q.1 (by decide))) (by decide) (fun q => absurd q.1 (by decide))) ?_
      refine hr_call (a0 := 22) (b := 225) (e := 2) (nl := 3) (As := [(0, v2)]) (R := []) 192 rfl (by decide +kernel) rfl rfl (Nat.le_of_ble_eq_true rfl) (Nat.le_of_ble_eq_true rfl) ?_
      refine hw_mono H ?_
      rintro r ψ39 y39 ⟨hyx, z39, hr, H⟩
      subst hyx
      subst hr
      refine ⟨hne0, ?_⟩
      show hw sc (d + 4) 261 167 (jm_st1 (jm_st1 [(0, (2, 192)), (1, (0, v1)), (2, (0, v2)), (3, (0, v3))] 4 (0, 0)) 4 (0, 0)) [(0, z39)] ψ39 y39 Q
      refine hw_pop (a0 := 0) (e := 0) (by decide +kernel) (by decide) ?_
      refine hw_ld (b := 4) (e := 1) (by decide +kernel) get_st1e ?_
      refine hw_if (a0 := 0) (b := 5) (e := 183) (by decide +kernel) (by unfold hi; omega) (fun _ => ?_) (fun q => absurd (show (0 : Int) ≤ 0 by decide) q)
      refine hw_k (c := 0) (b := 0) (e := 1) (by decide +kernel) ?_
      exact hw_ret (a0 := 0) (e := 0) (by decide +kernel) (Or.inl rfl) H
    · have H := hf37 q
      refine hw_k (c := 1) (b := 0) (e := 1) (by decide +kernel) ?_
      refine hw_goto (a0 := 0) (b := 0) (e := 155) (by decide +kernel) ?_
      refine hw_st (L' := (jm_st1 (jm_st1 [(0, (2, 192)), (1, (0, v1)), (2, (0, v2)), (3, (0, v3))] 4 (0, 0)) 4 (0, 1))) (b := 4) (e := 1) (by decide +kernel) rfl ?_
      refine hw_ld (b := 4) (e := 1) (by decide +kernel) get_st1e ?_
      refine hw_if (a0 := 0) (b := 1) (e := 168) (by decide +kernel) (by unfold hi; omega) (fun _ => ?_) (fun q => absurd (show ¬ (1 : Int) = 0 by decide) q)
      refine hw_ld (b := 4) (e := 1) (by decide +kernel) get_st1e ?_
      refine hw_if (a0 := 0) (b := 5) (e := 183) (by decide +kernel) (by unfold hi; omega) (fun q => absurd (show (1 : Int) ≤ 0 from q) (by decide)) (fun _ => ?_)
      refine hw_k (c := 10) (b := 1) (e := 2) (by decide +kernel) ?_
      refine hw_ld (b := 1) (e := 0) (by decide +kernel) (get_st1 (get_st1 rfl (by decide) (fun q => absurd q.1 (by decide))) (by decide) (fun q => absurd q.1 (by decide))) ?_
      refine hw_bin (w := 10 * v1) (a0 := 0) (b := 2) (e := 0) (by decide +kernel) rfl ?_
      refine hw_ld (b := 4) (e := 1) (by decide +kernel) get_st1e ?_
      refine hw_bin (w := (10 * v1) + 1) (a0 := 0) (b := 0) (e := 0) (by decide +kernel) rfl ?_
      refine hw_goto (a0 := 0) (b := 0) (e := 184) (by decide +kernel) ?_
      exact hw_ret (a0 := 0) (e := 0) (by decide +kernel) (Or.inl rfl) H
  · intro kq tq htq hzq
    match kq, htq, hzq with
    | 0, htq, hzq =>
      cases htq
      have H := H.1 (by omega)
      refine hw_ald (b := 0) (e := 0) (by decide +kernel) (get_st1 rfl (by decide) (fun q => absurd q.1 (by decide))) (by decide) ?_
      refine hw_ld (b := 2) (e := 0) (by decide +kernel) (get_st1 rfl (by decide) (fun q => absurd q.1 (by decide))) ?_
      refine hw_ld (b := 3) (e := 0) (by decide +kernel) (get_st1 rfl (by decide) (fun q => tg0 q.2)) ?_
      refine hr_call (a0 := 22) (b := 215) (e := 3) (nl := 3) (As := [(0, v2), (0, v3)]) (R := []) 192 rfl (by decide +kernel) rfl rfl (Nat.le_of_ble_eq_true rfl) (Nat.le_of_ble_eq_true rfl) ?_
      refine hw_mono H ?_
      rintro r ψ2 y2 ⟨hyx, hψx, z2, hr, H⟩
      subst hyx
      subst hψx
      subst hr
      refine ⟨hne0, ?_⟩
      show hw sc (d + 4) 261 42 (jm_st1 [(0, (2, 192)), (1, (0, v1)), (2, (0, v2)), (3, (0, v3))] 4 (0, 0)) [(0, z2)] φ y2 Q
      refine hw_st (L' := (jm_st1 (jm_st1 [(0, (2, 192)), (1, (0, v1)), (2, (0, v2)), (3, (0, v3))] 4 (0, 0)) 4 (0, z2))) (b := 4) (e := 1) (by decide +kernel) rfl ?_
      refine hw_ld (b := 4) (e := 1) (by decide +kernel) get_st1e ?_
      obtain ⟨hz3, ht3, hf3⟩ := H
      refine hw_if (a0 := 0) (b := 1) (e := 168) (by decide +kernel) hz3 (fun q => ?_) (fun q => ?_)
      · have H := ht3 q
        refine hw_ld (b := 4) (e := 1) (by decide +kernel) get_st1e ?_
        obtain ⟨hz4, ht4, hf4⟩ := H
        refine hw_if (a0 := 0) (b := 5) (e := 183) (by decide +kernel) hz4 (fun q => ?_) (fun q => ?_)
        · have H := ht4 q
          refine hw_k (c := 0) (b := 0) (e := 1) (by decide +kernel) ?_
          exact hw_ret (a0 := 0) (e := 0) (by decide +kernel) (Or.inl rfl) H
        · have H := hf4 q
          refine hw_k (c := 10) (b := 1) (e := 2) (by decide +kernel) ?_
          refine hw_ld (b := 1) (e := 0) (by decide +kernel) (get_st1 (get_st1 rfl (by decide) (fun q => absurd q.1 (by decide))) (by decide) (fun q => absurd q.1 (by decide))) ?_
          refine hw_bin (w := 10 * v1) (a0 := 0) (b := 2) (e := 0) (by decide +kernel) rfl ?_
          refine hw_ld (b := 4) (e := 1) (by decide +kernel) get_st1e ?_
          refine hw_bin (w := (10 * v1) + z2) (a0 := 0) (b := 0) (e := 0) (by decide +kernel) rfl ?_
          refine hw_goto (a0 := 0) (b := 0) (e := 184) (by decide +kernel) ?_
          exact hw_ret (a0 := 0) (e := 0) (by decide +kernel) (Or.inl rfl) H
      · have H := hf3 q
        refine hw_ald (b := 0) (e := 0) (by decide +kernel) (get_st1 (get_st1 rfl (by decide) (fun q => absurd q.1 (by decide))) (by decide) (fun q => absurd q.1 (by decide))) (by decide) ?_
        refine hr_gr (w := 194) (b := 12) (e := 6) 192 rfl (by decide +kernel) ?_
        refine hw_k (c := 112) (b := 1) (e := 2) (by decide +kernel) ?_
        refine hw_ld (b := 2) (e := 0) (by decide +kernel) (get_st1 (get_st1 rfl (by decide) (fun q => absurd q.1 (by decide))) (by decide) (fun q => absurd q.1 (by decide))) ?_
        refine hw_bin (w := 112 + v2) (a0 := 0) (b := 0) (e := 0) (by decide +kernel) rfl ?_
        refine hw_ld (b := 3) (e := 0) (by decide +kernel) (get_st1 (get_st1 rfl (by decide) (fun q => tg0 q.2)) (by decide) (fun q => tg0 q.2)) ?_
        refine hw_k (c := 1) (b := 0) (e := 1) (by decide +kernel) ?_
        refine hw_bin (w := v3 + 1) (a0 := 0) (b := 0) (e := 0) (by decide +kernel) rfl ?_
        obtain ⟨hl7, hu7, H⟩ := H
        refine hr_as (a0 := 0) (e := 4) (n := 361) 194 rfl (by decide +kernel) hl7 hu7 ?_
        refine hw_goto (a0 := 0) (b := 0) (e := 168) (by decide +kernel) ?_
        refine hw_ld (b := 4) (e := 1) (by decide +kernel) get_st1e ?_
        obtain ⟨hz8, ht8, hf8⟩ := H
        refine hw_if (a0 := 0) (b := 5) (e := 183) (by decide +kernel) hz8 (fun q => ?_) (fun q => ?_)
        · have H := ht8 q
          refine hw_k (c := 0) (b := 0) (e := 1) (by decide +kernel) ?_
          exact hw_ret (a0 := 0) (e := 0) (by decide +kernel) (Or.inl rfl) H
        · have H := hf8 q
          refine hw_k (c := 10) (b := 1) (e := 2) (by decide +kernel) ?_
          refine hw_ld (b := 1) (e := 0) (by decide +kernel) (get_st1 (get_st1 rfl (by decide) (fun q => absurd q.1 (by decide))) (by decide) (fun q => absurd q.1 (by decide))) ?_
          refine hw_bin (w := 10 * v1) (a0 := 0) (b := 2) (e := 0) (by decide +kernel) rfl ?_
          refine hw_ld (b := 4) (e := 1) (by decide +kernel) get_st1e ?_
          refine hw_bin (w := (10 * v1) + z2) (a0 := 0) (b := 0) (e := 0) (by decide +kernel) rfl ?_
          refine hw_goto (a0 := 0) (b := 0) (e := 184) (by decide +kernel) ?_
          exact hw_ret (a0 := 0) (e := 0) (by decide +kernel) (Or.inl rfl) H
    | 1, htq, hzq =>
      cases htq
      have H := H.2.1 (by omega)
      refine hw_ald (b := 0) (e := 0) (by decide +kernel) (get_st1 rfl (by decide) (fun q => absurd q.1 (by decide))) (by decide) ?_
      refine hr_gr (w := 194) (b := 12) (e := 6) 192 rfl (by decide +kernel) ?_
      refine hw_k (c := 112) (b := 1) (e := 2) (by decide +kernel) ?_
      refine hw_ld (b := 2) (e := 0) (by decide +kernel) (get_st1 rfl (by decide) (fun q => absurd q.1 (by decide))) ?_
      refine hw_bin (w := 112 + v2) (a0 := 0) (b := 0) (e := 0) (by decide +kernel) rfl ?_
      obtain ⟨hl11, hu11, H⟩ := H
      refine hr_al (b := 0) (a0 := 0) (e := 0) (n := 361) (w := φ 194 ((112 + v2).toNat)) 194 rfl (by decide +kernel) (by decide) hl11 hu11 rfl ?_
      obtain ⟨hz12, ht12, hf12⟩ := H
      refine hw_if (a0 := 0) (b := 1) (e := 80) (by decide +kernel) hz12 (fun q => ?_) (fun q => ?_)
      · have H := ht12 q
        refine hw_k (c := 0) (b := 0) (e := 1) (by decide +kernel) ?_
        refine hw_st (L' := (jm_st1 (jm_st1 [(0, (2, 192)), (1, (0, v1)), (2, (0, v2)), (3, (0, v3))] 4 (0, 0)) 4 (0, 0))) (b := 4) (e := 1) (by decide +kernel) rfl ?_
        refine hw_ald (b := 0) (e := 0) (by decide +kernel) (get_st1 (get_st1 rfl (by decide) (fun q => absurd q.1 (by decide))) (by decide) (fun q => absurd q.1 (by decide))) (by decide) ?_
        refine hr_gr (w := 194) (b := 12) (e := 6) 192 rfl (by decide +kernel) ?_
        refine hw_k (c := 112) (b := 1) (e := 2) (by decide +kernel) ?_
        refine hw_ld (b := 2) (e := 0) (by decide +kernel) (get_st1 (get_st1 rfl (by decide) (fun q => absurd q.1 (by decide))) (by decide) (fun q => absurd q.1 (by decide))) ?_
        refine hw_bin (w := 112 + v2) (a0 := 0) (b := 0) (e := 0) (by decide +kernel) rfl ?_
        refine hw_k (c := 0) (b := 0) (e := 1) (by decide +kernel) ?_
        obtain ⟨hl13, hu13, H⟩ := H
        refine hr_as (a0 := 0) (e := 4) (n := 361) 194 rfl (by decide +kernel) hl13 hu13 ?_
        refine hw_goto (a0 := 0) (b := 0) (e := 168) (by decide +kernel) ?_
        refine hw_ld (b := 4) (e := 1) (by decide +kernel) get_st1e ?_
        refine hw_if (a0 := 0) (b := 5) (e := 183) (by decide +kernel) (by unfold hi; omega) (fun _ => ?_) (fun q => absurd (show (0 : Int) ≤ 0 by decide) q)
        refine hw_k (c := 0) (b := 0) (e := 1) (by decide +kernel) ?_
        exact hw_ret (a0 := 0) (e := 0) (by decide +kernel) (Or.inl rfl) H
      · have H := hf12 q
        refine hw_k (c := 1) (b := 0) (e := 1) (by decide +kernel) ?_
        refine hw_goto (a0 := 0) (b := 0) (e := 81) (by decide +kernel) ?_
        refine hw_st (L' := (jm_st1 (jm_st1 [(0, (2, 192)), (1, (0, v1)), (2, (0, v2)), (3, (0, v3))] 4 (0, 0)) 4 (0, 1))) (b := 4) (e := 1) (by decide +kernel) rfl ?_
        refine hw_ald (b := 0) (e := 0) (by decide +kernel) (get_st1 (get_st1 rfl (by decide) (fun q => absurd q.1 (by decide))) (by decide) (fun q => absurd q.1 (by decide))) (by decide) ?_
        refine hr_gr (w := 194) (b := 12) (e := 6) 192 rfl (by decide +kernel) ?_
        refine hw_k (c := 112) (b := 1) (e := 2) (by decide +kernel) ?_
        refine hw_ld (b := 2) (e := 0) (by decide +kernel) (get_st1 (get_st1 rfl (by decide) (fun q => absurd q.1 (by decide))) (by decide) (fun q => absurd q.1 (by decide))) ?_
        refine hw_bin (w := 112 + v2) (a0 := 0) (b := 0) (e := 0) (by decide +kernel) rfl ?_
        refine hw_k (c := 0) (b := 0) (e := 1) (by decide +kernel) ?_
        obtain ⟨hl16, hu16, H⟩ := H
        refine hr_as (a0 := 0) (e := 4) (n := 361) 194 rfl (by decide +kernel) hl16 hu16 ?_
        refine hw_goto (a0 := 0) (b := 0) (e := 168) (by decide +kernel) ?_
        refine hw_ld (b := 4) (e := 1) (by decide +kernel) get_st1e ?_
        refine hw_if (a0 := 0) (b := 5) (e := 183) (by decide +kernel) (by unfold hi; omega) (fun q => absurd (show (1 : Int) ≤ 0 from q) (by decide)) (fun _ => ?_)
        refine hw_k (c := 10) (b := 1) (e := 2) (by decide +kernel) ?_
        refine hw_ld (b := 1) (e := 0) (by decide +kernel) (get_st1 (get_st1 rfl (by decide) (fun q => absurd q.1 (by decide))) (by decide) (fun q => absurd q.1 (by decide))) ?_
        refine hw_bin (w := 10 * v1) (a0 := 0) (b := 2) (e := 0) (by decide +kernel) rfl ?_
        refine hw_ld (b := 4) (e := 1) (by decide +kernel) get_st1e ?_
        refine hw_bin (w := (10 * v1) + 1) (a0 := 0) (b := 0) (e := 0) (by decide +kernel) rfl ?_
        refine hw_goto (a0 := 0) (b := 0) (e := 184) (by decide +kernel) ?_
        exact hw_ret (a0 := 0) (e := 0) (by decide +kernel) (Or.inl rfl) H
    | 2, htq, hzq =>
      cases htq
      have H := H.2.2.1 (by omega)
      refine hw_ald (b := 0) (e := 0) (by decide +kernel) (get_st1 rfl (by decide) (fun q => absurd q.1 (by decide))) (by decide) ?_
      refine hw_ld (b := 2) (e := 0) (by decide +kernel) (get_st1 rfl (by decide) (fun q => absurd q.1 (by decide))) ?_
      refine hr_call (a0 := 22) (b := 219) (e := 2) (nl := 2) (As := [(0, v2)]) (R := []) 192 rfl (by decide +kernel) rfl rfl (Nat.le_of_ble_eq_true rfl) (Nat.le_of_ble_eq_true rfl) ?_
      refine hw_mono H ?_
      rintro r ψ19 y19 ⟨hyx, hψx, z19, hr, H⟩
      subst hyx
      subst hψx
      subst hr
      refine ⟨hne0, ?_⟩
      show hw sc (d + 4) 261 101 (jm_st1 [(0, (2, 192)), (1, (0, v1)), (2, (0, v2)), (3, (0, v3))] 4 (0, 0)) [(0, z19)] φ y19 Q
      refine hw_st (L' := (jm_st1 (jm_st1 [(0, (2, 192)), (1, (0, v1)), (2, (0, v2)), (3, (0, v3))] 4 (0, 0)) 4 (0, z19))) (b := 4) (e := 1) (by decide +kernel) rfl ?_
      refine hw_ld (b := 4) (e := 1) (by decide +kernel) get_st1e ?_
      obtain ⟨hz20, ht20, hf20⟩ := H
      refine hw_if (a0 := 0) (b := 1) (e := 168) (by decide +kernel) hz20 (fun q => ?_) (fun q => ?_)
      · have H := ht20 q
        refine hw_ld (b := 4) (e := 1) (by decide +kernel) get_st1e ?_
        obtain ⟨hz21, ht21, hf21⟩ := H
        refine hw_if (a0 := 0) (b := 5) (e := 183) (by decide +kernel) hz21 (fun q => ?_) (fun q => ?_)
        · have H := ht21 q
          refine hw_k (c := 0) (b := 0) (e := 1) (by decide +kernel) ?_
          exact hw_ret (a0 := 0) (e := 0) (by decide +kernel) (Or.inl rfl) H
        · have H := hf21 q
          refine hw_k (c := 10) (b := 1) (e := 2) (by decide +kernel) ?_
          refine hw_ld (b := 1) (e := 0) (by decide +kernel) (get_st1 (get_st1 rfl (by decide) (fun q => absurd q.1 (by decide))) (by decide) (fun q => absurd q.1 (by decide))) ?_
          refine hw_bin (w := 10 * v1) (a0 := 0) (b := 2) (e := 0) (by decide +kernel) rfl ?_
          refine hw_ld (b := 4) (e := 1) (by decide +kernel) get_st1e ?_
          refine hw_bin (w := (10 * v1) + z19) (a0 := 0) (b := 0) (e := 0) (by decide +kernel) rfl ?_
          refine hw_goto (a0 := 0) (b := 0) (e := 184) (by decide +kernel) ?_
          exact hw_ret (a0 := 0) (e := 0) (by decide +kernel) (Or.inl rfl) H
      · have H := hf20 q
        refine hw_ald (b := 0) (e := 0) (by decide +kernel) (get_st1 (get_st1 rfl (by decide) (fun q => absurd q.1 (by decide))) (by decide) (fun q => absurd q.1 (by decide))) (by decide) ?_
        refine hw_ld (b := 2) (e := 0) (by decide +kernel) (get_st1 (get_st1 rfl (by decide) (fun q => absurd q.1 (by decide))) (by decide) (fun q => absurd q.1 (by decide))) ?_
        refine hw_ld (b := 3) (e := 0) (by decide +kernel) (get_st1 (get_st1 rfl (by decide) (fun q => tg0 q.2)) (by decide) (fun q => tg0 q.2)) ?_
        refine hr_call (a0 := 22) (b := 220) (e := 3) (nl := 3) (As := [(0, v2), (0, v3)]) (R := []) 192 rfl (by decide +kernel) rfl rfl (Nat.le_of_ble_eq_true rfl) (Nat.le_of_ble_eq_true rfl) ?_
        refine hw_mono H ?_
        rintro r ψ24 y24 ⟨hyx, hr, H⟩
        subst hyx
        subst hr
        refine ⟨hnen, ?_⟩
        show hw sc (d + 4) 261 114 (jm_st1 (jm_st1 [(0, (2, 192)), (1, (0, v1)), (2, (0, v2)), (3, (0, v3))] 4 (0, 0)) 4 (0, z19)) [] ψ24 y24 Q
        refine hw_goto (a0 := 0) (b := 0) (e := 168) (by decide +kernel) ?_
        refine hw_ld (b := 4) (e := 1) (by decide +kernel) get_st1e ?_
        obtain ⟨hz25, ht25, hf25⟩ := H
        refine hw_if (a0 := 0) (b := 5) (e := 183) (by decide +kernel) hz25 (fun q => ?_) (fun q => ?_)
        · have H := ht25 q
          refine hw_k (c := 0) (b := 0) (e := 1) (by decide +kernel) ?_
          exact hw_ret (a0 := 0) (e := 0) (by decide +kernel) (Or.inl rfl) H
        · have H := hf25 q
          refine hw_k (c := 10) (b := 1) (e := 2) (by decide +kernel) ?_
          refine hw_ld (b := 1) (e := 0) (by decide +kernel) (get_st1 (get_st1 rfl (by decide) (fun q => absurd q.1 (by decide))) (by decide) (fun q => absurd q.1 (by decide))) ?_
          refine hw_bin (w := 10 * v1) (a0 := 0) (b := 2) (e := 0) (by decide +kernel) rfl ?_
          refine hw_ld (b := 4) (e := 1) (by decide +kernel) get_st1e ?_
          refine hw_bin (w := (10 * v1) + z19) (a0 := 0) (b := 0) (e := 0) (by decide +kernel) rfl ?_
          refine hw_goto (a0 := 0) (b := 0) (e := 184) (by decide +kernel) ?_
          exact hw_ret (a0 := 0) (e := 0) (by decide +kernel) (Or.inl rfl) H
    | 3, htq, hzq =>
      cases htq
      have H := H.2.2.2.1 (by omega)
      refine hw_ald (b := 0) (e := 0) (by decide +kernel) (get_st1 rfl (by decide) (fun q => absurd q.1 (by decide))) (by decide) ?_
      refine hr_call (a0 := 22) (b := 222) (e := 1) (nl := 1) (As := []) (R := []) 192 rfl (by decide +kernel) rfl rfl (Nat.le_of_ble_eq_true rfl) (Nat.le_of_ble_eq_true rfl) ?_
      refine hw_mono H ?_
      rintro r ψ28 y28 ⟨hyx, hψx, z28, hr, H⟩
      subst hyx
      subst hψx
      subst hr
      refine ⟨hne0, ?_⟩
      show hw sc (d + 4) 261 121 (jm_st1 [(0, (2, 192)), (1, (0, v1)), (2, (0, v2)), (3, (0, v3))] 4 (0, 0)) [(0, z28)] φ y28 Q
      refine hw_st (L' := (jm_st1 (jm_st1 [(0, (2, 192)), (1, (0, v1)), (2, (0, v2)), (3, (0, v3))] 4 (0, 0)) 4 (0, z28))) (b := 4) (e := 1) (by decide +kernel) rfl ?_
      refine hw_ld (b := 4) (e := 1) (by decide +kernel) get_st1e ?_
      obtain ⟨hz29, ht29, hf29⟩ := H
      refine hw_if (a0 := 0) (b := 1) (e := 168) (by decide +kernel) hz29 (fun q => ?_) (fun q => ?_)
      · have H := ht29 q
        refine hw_ld (b := 4) (e := 1) (by decide +kernel) get_st1e ?_
        obtain ⟨hz30, ht30, hf30⟩ := H
        refine hw_if (a0 := 0) (b := 5) (e := 183) (by decide +kernel) hz30 (fun q => ?_) (fun q => ?_)
        · have H := ht30 q
          refine hw_k (c := 0) (b := 0) (e := 1) (by decide +kernel) ?_
          exact hw_ret (a0 := 0) (e := 0) (by decide +kernel) (Or.inl rfl) H
        · have H := hf30 q
          refine hw_k (c := 10) (b := 1) (e := 2) (by decide +kernel) ?_
          refine hw_ld (b := 1) (e := 0) (by decide +kernel) (get_st1 (get_st1 rfl (by decide) (fun q => absurd q.1 (by decide))) (by decide) (fun q => absurd q.1 (by decide))) ?_
          refine hw_bin (w := 10 * v1) (a0 := 0) (b := 2) (e := 0) (by decide +kernel) rfl ?_
          refine hw_ld (b := 4) (e := 1) (by decide +kernel) get_st1e ?_
          refine hw_bin (w := (10 * v1) + z28) (a0 := 0) (b := 0) (e := 0) (by decide +kernel) rfl ?_
          refine hw_goto (a0 := 0) (b := 0) (e := 184) (by decide +kernel) ?_
          exact hw_ret (a0 := 0) (e := 0) (by decide +kernel) (Or.inl rfl) H
      · have H := hf29 q
        refine hw_ald (b := 0) (e := 0) (by decide +kernel) (get_st1 (get_st1 rfl (by decide) (fun q => absurd q.1 (by decide))) (by decide) (fun q => absurd q.1 (by decide))) (by decide) ?_
        refine hr_call (a0 := 22) (b := 223) (e := 1) (nl := 2) (As := []) (R := []) 192 rfl (by decide +kernel) rfl rfl (Nat.le_of_ble_eq_true rfl) (Nat.le_of_ble_eq_true rfl) ?_
        refine hw_mono H ?_
        rintro r ψ33 y33 ⟨hyx, hr, H⟩
        subst hyx
        subst hr
        refine ⟨hnen, ?_⟩
        show hw sc (d + 4) 261 132 (jm_st1 (jm_st1 [(0, (2, 192)), (1, (0, v1)), (2, (0, v2)), (3, (0, v3))] 4 (0, 0)) 4 (0, z28)) [] ψ33 y33 Q
        refine hw_goto (a0 := 0) (b := 0) (e := 168) (by decide +kernel) ?_
        refine hw_ld (b := 4) (e := 1) (by decide +kernel) get_st1e ?_
        obtain ⟨hz34, ht34, hf34⟩ := H
        refine hw_if (a0 := 0) (b := 5) (e := 183) (by decide +kernel) hz34 (fun q => ?_) (fun q => ?_)
        · have H := ht34 q
          refine hw_k (c := 0) (b := 0) (e := 1) (by decide +kernel) ?_
          exact hw_ret (a0 := 0) (e := 0) (by decide +kernel) (Or.inl rfl) H
        · have H := hf34 q
          refine hw_k (c := 10) (b := 1) (e := 2) (by decide +kernel) ?_
          refine hw_ld (b := 1) (e := 0) (by decide +kernel) (get_st1 (get_st1 rfl (by decide) (fun q => absurd q.1 (by decide))) (by decide) (fun q => absurd q.1 (by decide))) ?_
          refine hw_bin (w := 10 * v1) (a0 := 0) (b := 2) (e := 0) (by decide +kernel) rfl ?_
          refine hw_ld (b := 4) (e := 1) (by decide +kernel) get_st1e ?_
          refine hw_bin (w := (10 * v1) + z28) (a0 := 0) (b := 0) (e := 0) (by decide +kernel) rfl ?_
          refine hw_goto (a0 := 0) (b := 0) (e := 184) (by decide +kernel) ?_
          exact hw_ret (a0 := 0) (e := 0) (by decide +kernel) (Or.inl rfl) H
    | kq + 4, htq, _ => cases htq
theorem sf_261_192 {sc : List Int} {d : Nat} {φ : hf_F} {x : Nat} {Q : Option jm_V → hf_F → Nat → Prop} {v1 v2 v3 : Int} (hI : Inv φ) (h1a : (-1 : Int) ≤ v1) (h1b : v1 ≤ 8214) (h2a : (-1 : Int) ≤ v2) (h2b : v2 ≤ 8214) (h3a : (-1 : Int) ≤ v3) (h3b : v3 ≤ 8214) (hp0 : (v1 = 0 → 0 ≤ v2 ∧ v2 ≤ 5 ∧ 0 ≤ v3 ∧ v3 ≤ 7)) (hp1 : (v1 = 1 → 0 ≤ v2 ∧ v2 ≤ 5)) (hp2 : (v1 = 2 → 0 ≤ v2 ∧ v2 ≤ 5 ∧ 0 ≤ v3 ∧ v3 ≤ 7)) (hQ : ∀ (r : Int) (ψ : hf_F), Inv ψ → Fr [194] φ ψ → True → Q (some (0, r)) ψ x) : hw sc (d + 4) 261 0 [(0, (2, 192)), (1, (0, v1)), (2, (0, v2)), (3, (0, v3))] [] φ x Q := by
  apply sf_261_192_v
  refine ⟨by unfold hi; omega, fun q1 => ?_, fun q1 => ?_, fun q1 => ?_, fun q1 => ?_, fun q1 => ?_⟩
  · skip
    refine sf_215_192 (φ := φ) hI (by omega) (by omega) (by omega) (by omega) (fun z2 hp2 => ⟨rfl, rfl, z2, rfl, ?_⟩)
    refine ⟨by unfold hi; omega, fun q3 => ?_, fun q3 => ?_⟩
    · skip
      refine ⟨by unfold hi; omega, fun q4 => ?_, fun q4 => ?_⟩
      · skip
        exact hQ 0 φ hI (fr_rf) trivial
      · skip
        exact hQ ((10 * v1) + z2) φ hI (fr_rf) trivial
    · skip
      refine ⟨by omega, by omega, ?_⟩
      have i1 : Inv (hf_up φ 194 ((112 + v2).toNat) (v3 + 1)) := iv_upI (s := 112) (t := 118) (lo := 0) (u := 8) (z := 112 + v2) hI (by decide +kernel) (by omega) (by omega) (by omega) (by omega)
      have r1 : Fr [194] φ (hf_up φ 194 ((112 + v2).toNat) (v3 + 1)) := fr_up (fr_rf) (by decide)
      refine ⟨by unfold hi; omega, fun q8 => ?_, fun q8 => ?_⟩
      · skip
        exact hQ 0 (hf_up φ 194 ((112 + v2).toNat) (v3 + 1)) i1 r1 trivial
      · skip
        exact hQ ((10 * v1) + z2) (hf_up φ 194 ((112 + v2).toNat) (v3 + 1)) i1 r1 trivial
  · skip
    refine ⟨by omega, by omega, ?_⟩
    have f2 := iv_ar (a := 194) (s := 112) (t := 118) (lo := 0) (u := 8) (z := 112 + v2) hI (by decide +kernel) (by omega) (by omega)
    refine ⟨by unfold hi; omega, fun q12 => ?_, fun q12 => ?_⟩
    · skip
      refine ⟨by omega, by omega, ?_⟩
      have i3 : Inv (hf_up φ 194 ((112 + v2).toNat) 0) := iv_upI (s := 112) (t := 118) (lo := 0) (u := 8) (z := 112 + v2) hI (by decide +kernel) (by omega) (by omega) (by omega) (by omega)
      have r3 : Fr [194] φ (hf_up φ 194 ((112 + v2).toNat) 0) := fr_up (fr_rf) (by decide)
      exact hQ 0 (hf_up φ 194 ((112 + v2).toNat) 0) i3 r3 trivial
    · skip
      refine ⟨by omega, by omega, ?_⟩
      have i4 : Inv (hf_up φ 194 ((112 + v2).toNat) 0) := iv_upI (s := 112) (t := 118) (lo := 0) (u := 8) (z := 112 + v2) hI (by decide +kernel) (by omega) (by omega) (by omega) (by omega)
      have r4 : Fr [194] φ (hf_up φ 194 ((112 + v2).toNat) 0) := fr_up (fr_rf) (by decide)
      exact hQ ((10 * v1) + 1) (hf_up φ 194 ((112 + v2).toNat) 0) i4 r4 trivial
  · skip
    refine sf_219_192 (φ := φ) hI (by omega) (by omega) (fun z19 hp19 => ⟨rfl, rfl, z19, rfl, ?_⟩)
    have f5 := iv_ar (a := 194) (s := 118) (t := 124) (lo := 0) (u := 6) (z := 118 + v2) hI (by decide +kernel) (by omega) (by omega)
    refine ⟨by unfold hi; omega, fun q20 => ?_, fun q20 => ?_⟩
    · skip
      refine ⟨by unfold hi; omega, fun q21 => ?_, fun q21 => ?_⟩
      · skip
        exact hQ 0 φ hI (fr_rf) trivial
      · skip
        exact hQ ((10 * v1) + z19) φ hI (fr_rf) trivial
    · skip
      have f6 := iv_ar (a := 194) (s := 118) (t := 124) (lo := 0) (u := 6) (z := 118 + v3) hI (by decide +kernel) (by omega) (by omega)
      refine sf_220_192 (φ := φ) hI (by omega) (by omega) (by omega) (by omega) (by omega) (fun ψ24 hI24 hF24 => ⟨rfl, rfl, ?_⟩)
      have hG24 : Fr [194] φ ψ24 := fr_tr (fr_rf) hF24 (by decide)
      refine ⟨by unfold hi; omega, fun q25 => ?_, fun q25 => ?_⟩
      · skip
        exact hQ 0 ψ24 hI24 hG24 trivial
      · skip
        exact hQ ((10 * v1) + z19) ψ24 hI24 hG24 trivial
  · skip
    refine sf_222_192 (φ := φ) hI  (fun z28 hp28 => ⟨rfl, rfl, z28, rfl, ?_⟩)
    refine ⟨by unfold hi; omega, fun q29 => ?_, fun q29 => ?_⟩
    · skip
      refine ⟨by unfold hi; omega, fun q30 => ?_, fun q30 => ?_⟩
      · skip
        exact hQ 0 φ hI (fr_rf) trivial
      · skip
        exact hQ ((10 * v1) + z28) φ hI (fr_rf) trivial
    · skip
      refine sf_223_192 (φ := φ) hI  (fun ψ33 hI33 hF33 => ⟨rfl, rfl, ?_⟩)
      have hG33 : Fr [194] φ ψ33 := fr_tr (fr_rf) hF33 (by decide)
      refine ⟨by unfold hi; omega, fun q34 => ?_, fun q34 => ?_⟩
      · skip
        exact hQ 0 ψ33 hI33 hG33 trivial
      · skip
        exact hQ ((10 * v1) + z28) ψ33 hI33 hG33 trivial
  · skip
    have f7 := hr_n ((φ 194 99) + v2)
    refine ⟨by unfold hi; omega, fun q37 => ?_, fun q37 => ?_⟩
    · skip
      refine sf_225_192 (φ := φ) hI (by omega) (by omega) (fun z39 ψ39 hI39 hF39 hp39 => ⟨rfl, z39, rfl, ?_⟩)
      have hG39 : Fr [194] φ ψ39 := fr_tr (fr_rf) hF39 (by decide)
      exact hQ 0 ψ39 hI39 hG39 trivial
    · skip
      exact hQ ((10 * v1) + 1) φ hI (fr_rf) trivial
