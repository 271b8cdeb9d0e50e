theorem sf_31_v {sc : List Int} {d : Nat} {φ : hf_F} {x : Nat} {Q : Option jm_V → hf_F → Nat → Prop} {v0 : Int}
    (H : hi v0 ∧ hi 97 ∧ (v0 < 97 → Q (some (0, 0)) φ x) ∧ (¬ v0 < 97 → hi v0 ∧ hi 122 ∧ (122 < v0 → Q (some (0, 0)) φ x) ∧ (¬ 122 < v0 → Q (some (0, 1)) φ x))) :
    hw sc d 31 0 [(0, (0, v0))] [] φ x Q := by
  refine hw_ld (b := 0) (e := 0) (by decide +kernel) rfl ?_
  refine hw_k (c := 97) (b := 1) (e := 2) (by decide +kernel) ?_
  obtain ⟨hz1, hy1, ht1, hf1⟩ := H
  refine hw_if2 (a0 := 0) (b := 2) (e := 16) (by decide +kernel) hz1 hy1 (fun q => ?_) (fun q => ?_)
  · have H := ht1 q
    refine hw_k (c := 0) (b := 0) (e := 1) (by decide +kernel) ?_
    exact hw_ret (a0 := 0) (e := 1) (by decide +kernel) (Or.inr ⟨rfl, by decide⟩) H
  · have H := hf1 q
    refine hw_ld (b := 0) (e := 0) (by decide +kernel) rfl ?_
    refine hw_k (c := 122) (b := 1) (e := 2) (by decide +kernel) ?_
    obtain ⟨hz3, hy3, ht3, hf3⟩ := H
    refine hw_if2 (a0 := 0) (b := 4) (e := 16) (by decide +kernel) hz3 hy3 (fun q => ?_) (fun q => ?_)
    · have H := ht3 q
      refine hw_k (c := 0) (b := 0) (e := 1) (by decide +kernel) ?_
      exact hw_ret (a0 := 0) (e := 1) (by decide +kernel) (Or.inr ⟨rfl, by decide⟩) H
    · have H := hf3 q
      refine hw_k (c := 1) (b := 0) (e := 1) (by decide +kernel) ?_
      refine hw_goto (a0 := 0) (b := 0) (e := 17) (by decide +kernel) ?_
      exact hw_ret (a0 := 0) (e := 1) (by decide +kernel) (Or.inr ⟨rfl, by decide⟩) H
theorem sf_31 {sc : List Int} {d : Nat} {φ : hf_F} {x : Nat} {Q : Option jm_V → hf_F → Nat → Prop} {v0 : Int} (hI : Inv φ) (h0a : (-128 : Int) ≤ v0) (h0b : v0 ≤ 127) (hQ : ∀ (r : Int), 0 ≤ r ∧ r ≤ 1 ∧ ((r = 1 → 97 ≤ v0 ∧ v0 ≤ 122) ∧ (r = 0 → ¬ (97 ≤ v0 ∧ v0 ≤ 122))) → F_Reader_isLetter φ v0 = r → Q (some (0, r)) φ x) : hw sc d 31 0 [(0, (0, v0))] [] φ x Q := by
  apply sf_31_v
  have e0 : F_Reader_isLetter φ v0 = _ := rfl
  refine ⟨by unfold hi; omega, by unfold hi; omega, fun q1 => ?_, fun q1 => ?_⟩
  · skip
    have e1a := e0.trans (if_pos q1)
    exact hQ 0 ⟨by omega, by omega, by omega⟩ e1a
  · skip
    have e1b := e0.trans (if_neg q1)
    refine ⟨by unfold hi; omega, by unfold hi; omega, fun q3 => ?_, fun q3 => ?_⟩
    · skip
      have e3a := e1b.trans (if_pos q3)
      exact hQ 0 ⟨by omega, by omega, by omega⟩ e3a
    · skip
      have e3b := e1b.trans (if_neg q3)
      exact hQ 1 ⟨by omega, by omega, by omega⟩ e3b
theorem sf_9_v {sc : List Int} {d : Nat} {φ : hf_F} {x : Nat} {Q : Option jm_V → hf_F → Nat → Prop} {v0 v2 : Int}
    (H : Q (some (1, (v0 * 32) + (hb_i2l ((v2 - 97) + 1)))) φ x) :
    hw sc d 9 0 [(0, (1, v0)), (2, (0, v2))] [] φ x Q := by
  refine hw_lld (b := 0) (e := 0) (by decide +kernel) rfl ?_
  refine hw_lk (c := 32) (b := 1) (e := 3) (by decide +kernel) ?_
  refine hw_lbin (w := v0 * 32) (a0 := 0) (b := 1) (e := 0) (by decide +kernel) rfl ?_
  refine hw_ld (b := 2) (e := 0) (by decide +kernel) rfl ?_
  refine hw_k (c := 97) (b := 1) (e := 2) (by decide +kernel) ?_
  refine hw_bin (w := v2 - 97) (a0 := 0) (b := 1) (e := 0) (by decide +kernel) rfl ?_
  refine hw_k (c := 1) (b := 0) (e := 1) (by decide +kernel) ?_
  refine hw_bin (w := (v2 - 97) + 1) (a0 := 0) (b := 0) (e := 0) (by decide +kernel) rfl ?_
  refine hw_conv (t' := 1) (w := hb_i2l ((v2 - 97) + 1)) (a0 := 0) (b := 0) (e := 0) (by decide +kernel) rfl ?_
  refine hw_lbin (w := (v0 * 32) + (hb_i2l ((v2 - 97) + 1))) (a0 := 0) (b := 0) (e := 0) (by decide +kernel) rfl ?_
  exact hw_lret (a0 := 0) (e := 4) (by decide +kernel) H
theorem sf_9 {sc : List Int} {d : Nat} {φ : hf_F} {x : Nat} {Q : Option jm_V → hf_F → Nat → Prop} {v0 v2 : Int} (hI : Inv φ) (h2a : (-2147483648 : Int) ≤ v2) (h2b : v2 ≤ 2147483647) (hQ : ∀ (r : Int), True → F_Reader_packed φ v0 v2 = r → Q (some (1, r)) φ x) : hw sc d 9 0 [(0, (1, v0)), (2, (0, v2))] [] φ x Q := by
  apply sf_9_v
  have e0 : F_Reader_packed φ v0 v2 = _ := rfl
  exact hQ ((v0 * 32) + (hb_i2l ((v2 - 97) + 1))) trivial e0
theorem sf_32_v {sc : List Int} {d : Nat} {φ : hf_F} {x : Nat} {Q : Option jm_V → hf_F → Nat → Prop} {v0 : Int}
    (H : hi v0 ∧ hi 48 ∧ (v0 < 48 → Q (some (0, 0)) φ x) ∧ (¬ v0 < 48 → hi v0 ∧ hi 57 ∧ (57 < v0 → Q (some (0, 0)) φ x) ∧ (¬ 57 < v0 → Q (some (0, 1)) φ x))) :
    hw sc d 32 0 [(0, (0, v0))] [] φ x Q := by
  refine hw_ld (b := 0) (e := 0) (by decide +kernel) rfl ?_
  refine hw_k (c := 48) (b := 1) (e := 2) (by decide +kernel) ?_
  obtain ⟨hz1, hy1, ht1, hf1⟩ := H
  refine hw_if2 (a0 := 0) (b := 2) (e := 16) (by decide +kernel) hz1 hy1 (fun q => ?_) (fun q => ?_)
  · have H := ht1 q
    refine hw_k (c := 0) (b := 0) (e := 1) (by decide +kernel) ?_
    exact hw_ret (a0 := 0) (e := 1) (by decide +kernel) (Or.inr ⟨rfl, by decide⟩) H
  · have H := hf1 q
    refine hw_ld (b := 0) (e := 0) (by decide +kernel) rfl ?_
    refine hw_k (c := 57) (b := 1) (e := 2) (by decide +kernel) ?_
    obtain ⟨hz3, hy3, ht3, hf3⟩ := H
    refine hw_if2 (a0 := 0) (b := 4) (e := 16) (by decide +kernel) hz3 hy3 (fun q => ?_) (fun q => ?_)
    · have H := ht3 q
      refine hw_k (c := 0) (b := 0) (e := 1) (by decide +kernel) ?_
      exact hw_ret (a0 := 0) (e := 1) (by decide +kernel) (Or.inr ⟨rfl, by decide⟩) H
    · have H := hf3 q
      refine hw_k (c := 1) (b := 0) (e := 1) (by decide +kernel) ?_
      refine hw_goto (a0 := 0) (b := 0) (e := 17) (by decide +kernel) ?_
      exact hw_ret (a0 := 0) (e := 1) (by decide +kernel) (Or.inr ⟨rfl, by decide⟩) H
theorem sf_32 {sc : List Int} {d : Nat} {φ : hf_F} {x : Nat} {Q : Option jm_V → hf_F → Nat → Prop} {v0 : Int} (hI : Inv φ) (h0a : (-128 : Int) ≤ v0) (h0b : v0 ≤ 127) (hQ : ∀ (r : Int), 0 ≤ r ∧ r ≤ 1 ∧ ((r = 1 → 48 ≤ v0 ∧ v0 ≤ 57) ∧ (r = 0 → ¬ (48 ≤ v0 ∧ v0 ≤ 57))) → F_Reader_isDigit φ v0 = r → Q (some (0, r)) φ x) : hw sc d 32 0 [(0, (0, v0))] [] φ x Q := by
  apply sf_32_v
  have e0 : F_Reader_isDigit φ v0 = _ := rfl
  refine ⟨by unfold hi; omega, by unfold hi; omega, fun q1 => ?_, fun q1 => ?_⟩
  · skip
    have e1a := e0.trans (if_pos q1)
    exact hQ 0 ⟨by omega, by omega, by omega⟩ e1a
  · skip
    have e1b := e0.trans (if_neg q1)
    refine ⟨by unfold hi; omega, by unfold hi; omega, fun q3 => ?_, fun q3 => ?_⟩
    · skip
      have e3a := e1b.trans (if_pos q3)
      exact hQ 0 ⟨by omega, by omega, by omega⟩ e3a
    · skip
      have e3b := e1b.trans (if_neg q3)
      exact hQ 1 ⟨by omega, by omega, by omega⟩ e3b
theorem sf_33_1_v9 {sc : List Int} {d : Nat} {φ : hf_F} {x : Nat} {Q : Option jm_V → hf_F → Nat → Prop} {L : jm_L} {l1 l2 l3 l4 : Int} (g0 : jm_get L 0 = some (2, 1)) (g1 : jm_get L 1 = some (0, l1)) (g2 : jm_get L 2 = some (0, l2)) (g3 : jm_get L 3 = some (0, l3)) (g4 : jm_get L 4 = some (1, l4))
    (H : hi (φ 1 4) ∧ hi (φ 1 2) ∧ ((φ 1 2) ≤ (φ 1 4) → hi l2 ∧ (¬ l2 = 0 → hi l1 ∧ (¬ l1 = 0 → Q none (hf_up φ 1 5 1) x) ∧ (¬ (¬ l1 = 0) → hi l2 ∧ hi 3 ∧ (3 < l2 → Q none (hf_up φ 1 5 1) x) ∧ (¬ 3 < l2 → Q none (hf_up (hf_up φ 1 5 4) 1 7 l3) x))) ∧ (¬ (¬ l2 = 0) → hi l1 ∧ hi 7 ∧ (7 < l1 → hi l1 ∧ (¬ l1 = 0 → Q none (hf_up φ 1 5 1) x) ∧ (¬ (¬ l1 = 0) → hi l2 ∧ hi 3 ∧ (3 < l2 → Q none (hf_up φ 1 5 1) x) ∧ (¬ 3 < l2 → Q none (hf_up (hf_up φ 1 5 4) 1 7 l3) x))) ∧ (¬ 7 < l1 → hw sc d 34 0 [(0, (2, 1)), (1, (1, l4))] [] φ x (fun r ψ14 y14 => y14 = x ∧ (r = none ∧ (Q none ψ14 x)))))) ∧ (¬ (φ 1 2) ≤ (φ 1 4) → 0 ≤ (φ 1 4) ∧ (φ 1 4) < 940 ∧ (hw sc d 31 0 [(0, (0, φ 2 ((φ 1 4).toNat)))] [] φ x (fun r ψ17 y17 => y17 = x ∧ φ = ψ17 ∧ (∃ z17 : Int, r = some (0, z17) ∧ (hi z17 ∧ (¬ z17 = 0 → 0 ≤ (φ 1 4) ∧ (φ 1 4) < 940 ∧ (hw sc d 31 0 [(0, (0, φ 2 ((φ 1 4).toNat)))] [] φ x (fun r ψ20 y20 => y20 = x ∧ φ = ψ20 ∧ (∃ z20 : Int, r = some (0, z20) ∧ (hi z20 ∧ (z20 = 0 → 0 ≤ (φ 1 4) ∧ (φ 1 4) < 940 ∧ (hw sc (d + 1) 33 9 (jm_st1 (jm_st1 L 2 (0, l2 + 1)) 3 (0, (l3 * 10) + ((φ 2 ((φ 1 4).toNat)) - 48))) [] (hf_up φ 1 4 ((φ 1 4) + 1)) x Q)) ∧ (¬ z20 = 0 → 0 ≤ (φ 1 4) ∧ (φ 1 4) < 940 ∧ (hw sc d 9 0 [(0, (1, l4)), (2, (0, φ 2 ((φ 1 4).toNat)))] [] φ x (fun r ψ24 y24 => y24 = x ∧ φ = ψ24 ∧ (∃ z24 : Int, r = some (1, z24) ∧ (hw sc (d + 1) 33 9 (jm_st2 (jm_st1 L 1 (0, l1 + 1)) 4 (1, z24)) [] (hf_up φ 1 4 ((φ 1 4) + 1)) x Q)))))))))) ∧ (¬ (¬ z17 = 0) → 0 ≤ (φ 1 4) ∧ (φ 1 4) < 940 ∧ (hw sc d 32 0 [(0, (0, φ 2 ((φ 1 4).toNat)))] [] φ x (fun r ψ26 y26 => y26 = x ∧ φ = ψ26 ∧ (∃ z26 : Int, r = some (0, z26) ∧ (hi z26 ∧ (z26 = 0 → hi l2 ∧ (¬ l2 = 0 → hi l1 ∧ (¬ l1 = 0 → Q none (hf_up φ 1 5 1) x) ∧ (¬ (¬ l1 = 0) → hi l2 ∧ hi 3 ∧ (3 < l2 → Q none (hf_up φ 1 5 1) x) ∧ (¬ 3 < l2 → Q none (hf_up (hf_up φ 1 5 4) 1 7 l3) x))) ∧ (¬ (¬ l2 = 0) → hi l1 ∧ hi 7 ∧ (7 < l1 → hi l1 ∧ (¬ l1 = 0 → Q none (hf_up φ 1 5 1) x) ∧ (¬ (¬ l1 = 0) → hi l2 ∧ hi 3 ∧ (3 < l2 → Q none (hf_up φ 1 5 1) x) ∧ (¬ 3 < l2 → Q none (hf_up (hf_up φ 1 5 4) 1 7 l3) x))) ∧ (¬ 7 < l1 → hw sc d 34 0 [(0, (2, 1)), (1, (1, l4))] [] φ x (fun r ψ40 y40 => y40 = x ∧ (r = none ∧ (Q none ψ40 x)))))) ∧ (¬ z26 = 0 → 0 ≤ (φ 1 4) ∧ (φ 1 4) < 940 ∧ (hw sc d 31 0 [(0, (0, φ 2 ((φ 1 4).toNat)))] [] φ x (fun r ψ43 y43 => y43 = x ∧ φ = ψ43 ∧ (∃ z43 : Int, r = some (0, z43) ∧ (hi z43 ∧ (z43 = 0 → 0 ≤ (φ 1 4) ∧ (φ 1 4) < 940 ∧ (hw sc (d + 1) 33 9 (jm_st1 (jm_st1 L 2 (0, l2 + 1)) 3 (0, (l3 * 10) + ((φ 2 ((φ 1 4).toNat)) - 48))) [] (hf_up φ 1 4 ((φ 1 4) + 1)) x Q)) ∧ (¬ z43 = 0 → 0 ≤ (φ 1 4) ∧ (φ 1 4) < 940 ∧ (hw sc d 9 0 [(0, (1, l4)), (2, (0, φ 2 ((φ 1 4).toNat)))] [] φ x (fun r ψ47 y47 => y47 = x ∧ φ = ψ47 ∧ (∃ z47 : Int, r = some (1, z47) ∧ (hw sc (d + 1) 33 9 (jm_st2 (jm_st1 L 1 (0, l1 + 1)) 4 (1, z47)) [] (hf_up φ 1 4 ((φ 1 4) + 1)) x Q))))))))))))))))))))) :
    hw sc (d + 1) 33 9 L [] φ x Q := by
  refine hw_ald (b := 0) (e := 0) (by decide +kernel) g0 (by decide) ?_
  refine hr_gi (w := φ 1 4) (b := 1) (e := 4) 1 rfl (by decide +kernel) rfl ?_
  refine hw_ald (b := 0) (e := 0) (by decide +kernel) g0 (by decide) ?_
  refine hr_gi (w := φ 1 2) (b := 1) (e := 2) 1 rfl (by decide +kernel) rfl ?_
  obtain ⟨hz1, hy1, ht1, hf1⟩ := H
  refine hw_if2 (a0 := 0) (b := 3) (e := 121) (by decide +kernel) hz1 hy1 (fun q => ?_) (fun q => ?_)
  · have H := ht1 q
    refine hw_ld (b := 2) (e := 0) (by decide +kernel) g2 ?_
    obtain ⟨hz2, ht2, hf2⟩ := H
    refine hw_if (a0 := 0) (b := 1) (e := 140) (by decide +kernel) hz2 (fun q => ?_) (fun q => ?_)
    · have H := ht2 q
      refine hw_ld (b := 1) (e := 0) (by decide +kernel) g1 ?_
      obtain ⟨hz3, ht3, hf3⟩ := H
      refine hw_if (a0 := 0) (b := 1) (e := 162) (by decide +kernel) hz3 (fun q => ?_) (fun q => ?_)
      · have H := ht3 q
        refine hw_ald (b := 0) (e := 0) (by decide +kernel) g0 (by decide) ?_
        refine hw_k (c := 1) (b := 0) (e := 1) (by decide +kernel) ?_
        refine hr_pi (b := 1) (e := 5) 1 rfl (by decide +kernel) ?_
        exact hw_vret (a0 := 0) (e := 0) (by decide +kernel) H
      · have H := hf3 q
        refine hw_ld (b := 2) (e := 0) (by decide +kernel) g2 ?_
        refine hw_k (c := 3) (b := 0) (e := 1) (by decide +kernel) ?_
        obtain ⟨hz5, hy5, ht5, hf5⟩ := H
        refine hw_if2 (a0 := 0) (b := 4) (e := 162) (by decide +kernel) hz5 hy5 (fun q => ?_) (fun q => ?_)
        · have H := ht5 q
          refine hw_ald (b := 0) (e := 0) (by decide +kernel) g0 (by decide) ?_
          refine hw_k (c := 1) (b := 0) (e := 1) (by decide +kernel) ?_
          refine hr_pi (b := 1) (e := 5) 1 rfl (by decide +kernel) ?_
          exact hw_vret (a0 := 0) (e := 0) (by decide +kernel) H
        · have H := hf5 q
          refine hw_ald (b := 0) (e := 0) (by decide +kernel) g0 (by decide) ?_
          refine hw_k (c := 4) (b := 0) (e := 1) (by decide +kernel) ?_
          refine hr_pi (b := 1) (e := 5) 1 rfl (by decide +kernel) ?_
          refine hw_ald (b := 0) (e := 0) (by decide +kernel) g0 (by decide) ?_
          refine hw_ld (b := 3) (e := 0) (by decide +kernel) g3 ?_
          refine hr_pi (b := 1) (e := 7) 1 rfl (by decide +kernel) ?_
          refine hw_goto (a0 := 0) (b := 0) (e := 167) (by decide +kernel) ?_
          exact hw_vret (a0 := 0) (e := 0) (by decide +kernel) H
    · have H := hf2 q
      refine hw_ld (b := 1) (e := 0) (by decide +kernel) g1 ?_
      refine hw_k (c := 7) (b := 1) (e := 2) (by decide +kernel) ?_
      obtain ⟨hz8, hy8, ht8, hf8⟩ := H
      refine hw_if2 (a0 := 0) (b := 4) (e := 140) (by decide +kernel) hz8 hy8 (fun q => ?_) (fun q => ?_)
      · have H := ht8 q
        refine hw_ld (b := 1) (e := 0) (by decide +kernel) g1 ?_
        obtain ⟨hz9, ht9, hf9⟩ := H
        refine hw_if (a0 := 0) (b := 1) (e := 162) (by decide +kernel) hz9 (fun q => ?_) (fun q => ?_)
        · have H := ht9 q
          refine hw_ald (b := 0) (e := 0) (by decide +kernel) g0 (by decide) ?_
          refine hw_k (c := 1) (b := 0) (e := 1) (by decide +kernel) ?_
          refine hr_pi (b := 1) (e := 5) 1 rfl (by decide +kernel) ?_
          exact hw_vret (a0 := 0) (e := 0) (by decide +kernel) H
        · have H := hf9 q
          refine hw_ld (b := 2) (e := 0) (by decide +kernel) g2 ?_
          refine hw_k (c := 3) (b := 0) (e := 1) (by decide +kernel) ?_
          obtain ⟨hz11, hy11, ht11, hf11⟩ := H
          refine hw_if2 (a0 := 0) (b := 4) (e := 162) (by decide +kernel) hz11 hy11 (fun q => ?_) (fun q => ?_)
          · have H := ht11 q
            refine hw_ald (b := 0) (e := 0) (by decide +kernel) g0 (by decide) ?_
            refine hw_k (c := 1) (b := 0) (e := 1) (by decide +kernel) ?_
            refine hr_pi (b := 1) (e := 5) 1 rfl (by decide +kernel) ?_
            exact hw_vret (a0 := 0) (e := 0) (by decide +kernel) H
          · have H := hf11 q
            refine hw_ald (b := 0) (e := 0) (by decide +kernel) g0 (by decide) ?_
            refine hw_k (c := 4) (b := 0) (e := 1) (by decide +kernel) ?_
            refine hr_pi (b := 1) (e := 5) 1 rfl (by decide +kernel) ?_
            refine hw_ald (b := 0) (e := 0) (by decide +kernel) g0 (by decide) ?_
            refine hw_ld (b := 3) (e := 0) (by decide +kernel) g3 ?_
            refine hr_pi (b := 1) (e := 7) 1 rfl (by decide +kernel) ?_
            refine hw_goto (a0 := 0) (b := 0) (e := 167) (by decide +kernel) ?_
            exact hw_vret (a0 := 0) (e := 0) (by decide +kernel) H
      · have H := hf8 q
        refine hw_ald (b := 0) (e := 0) (by decide +kernel) g0 (by decide) ?_
        refine hw_lld (b := 4) (e := 1) (by decide +kernel) g4 ?_
        refine hr_call (a0 := 11) (b := 34) (e := 2) (nl := 4) (As := [(1, l4)]) (R := []) 1 rfl (by decide +kernel) rfl rfl (Nat.le_of_ble_eq_true rfl) (Nat.le_of_ble_eq_true rfl) ?_
        refine hw_mono H ?_
        rintro r ψ14 y14 ⟨hyx, hr, H⟩
        subst hyx
        subst hr
        refine ⟨hnen, ?_⟩
        show hw sc (d + 1) 33 137 L [] ψ14 y14 Q
        refine hw_goto (a0 := 0) (b := 0) (e := 167) (by decide +kernel) ?_
        exact hw_vret (a0 := 0) (e := 0) (by decide +kernel) H
  · have H := hf1 q
    refine hw_ald (b := 0) (e := 0) (by decide +kernel) g0 (by decide) ?_
    refine hr_gr (w := 2) (b := 1) (e := 0) 1 rfl (by decide +kernel) ?_
    refine hw_ald (b := 0) (e := 0) (by decide +kernel) g0 (by decide) ?_
    refine hr_gi (w := φ 1 4) (b := 1) (e := 4) 1 rfl (by decide +kernel) rfl ?_
    obtain ⟨hl16, hu16, H⟩ := H
    refine hr_al (b := 1) (a0 := 0) (e := 0) (n := 940) (w := φ 2 ((φ 1 4).toNat)) 2 rfl (by decide +kernel) (by decide) hl16 hu16 rfl ?_
    refine hr_calls (b := 31) (e := 1) (nl := 1) (As := [(0, φ 2 ((φ 1 4).toNat))]) (R := []) (by decide +kernel) rfl rfl (Nat.le_of_ble_eq_true rfl) (Nat.le_of_ble_eq_true rfl) ?_
    refine hw_mono H ?_
    rintro r ψ17 y17 ⟨hyx, hψx, z17, hr, H⟩
    subst hyx
    subst hψx
    subst hr
    refine ⟨hne0, ?_⟩
    show hw sc (d + 1) 33 32 L [(0, z17)] φ y17 Q
    obtain ⟨hz18, ht18, hf18⟩ := H
    refine hw_if (a0 := 0) (b := 1) (e := 50) (by decide +kernel) hz18 (fun q => ?_) (fun q => ?_)
    · have H := ht18 q
      refine hw_ald (b := 0) (e := 0) (by decide +kernel) g0 (by decide) ?_
      refine hr_gr (w := 2) (b := 1) (e := 0) 1 rfl (by decide +kernel) ?_
      refine hw_ald (b := 0) (e := 0) (by decide +kernel) g0 (by decide) ?_
      refine hr_gi (w := φ 1 4) (b := 1) (e := 4) 1 rfl (by decide +kernel) rfl ?_
      obtain ⟨hl19, hu19, H⟩ := H
      refine hr_al (b := 1) (a0 := 0) (e := 0) (n := 940) (w := φ 2 ((φ 1 4).toNat)) 2 rfl (by decide +kernel) (by decide) hl19 hu19 rfl ?_
      refine hr_calls (b := 31) (e := 1) (nl := 1) (As := [(0, φ 2 ((φ 1 4).toNat))]) (R := []) (by decide +kernel) rfl rfl (Nat.le_of_ble_eq_true rfl) (Nat.le_of_ble_eq_true rfl) ?_
      refine hw_mono H ?_
      rintro r ψ20 y20 ⟨hyx, hψx, z20, hr, H⟩
      subst hyx
      subst hψx
      subst hr
      refine ⟨hne0, ?_⟩
      show hw sc (d + 1) 33 62 L [(0, z20)] φ y20 Q
      obtain ⟨hz21, ht21, hf21⟩ := H
      refine hw_if (a0 := 0) (b := 0) (e := 87) (by decide +kernel) hz21 (fun q => ?_) (fun q => ?_)
      · have H := ht21 q
        refine hw_inc (L' := (jm_st1 L 2 (0, l2 + 1))) (c := 1) (b := 2) (e := 0) (by decide +kernel) g2 rfl ?_
        refine hw_ld (b := 3) (e := 0) (by decide +kernel) (get_st1 g3 (by decide) (fun q => absurd q.1 (by decide))) ?_
        refine hw_k (c := 10) (b := 1) (e := 2) (by decide +kernel) ?_
        refine hw_bin (w := l3 * 10) (a0 := 0) (b := 2) (e := 0) (by decide +kernel) rfl ?_
        refine hw_ald (b := 0) (e := 0) (by decide +kernel) (get_st1 g0 (by decide) (fun q => absurd q.1 (by decide))) (by decide) ?_
        refine hr_gr (w := 2) (b := 1) (e := 0) 1 rfl (by decide +kernel) ?_
        refine hw_ald (b := 0) (e := 0) (by decide +kernel) (get_st1 g0 (by decide) (fun q => absurd q.1 (by decide))) (by decide) ?_
        refine hr_gi (w := φ 1 4) (b := 1) (e := 4) 1 rfl (by decide +kernel) rfl ?_
        obtain ⟨hl22, hu22, H⟩ := H
        refine hr_al (b := 1) (a0 := 0) (e := 0) (n := 940) (w := φ 2 ((φ 1 4).toNat)) 2 rfl (by decide +kernel) (by decide) hl22 hu22 rfl ?_
        refine hw_k (c := 48) (b := 1) (e := 2) (by decide +kernel) ?_
        refine hw_bin (w := (φ 2 ((φ 1 4).toNat)) - 48) (a0 := 0) (b := 1) (e := 0) (by decide +kernel) rfl ?_
        refine hw_bin (w := (l3 * 10) + ((φ 2 ((φ 1 4).toNat)) - 48)) (a0 := 0) (b := 0) (e := 0) (by decide +kernel) rfl ?_
        refine hw_st (L' := (jm_st1 (jm_st1 L 2 (0, l2 + 1)) 3 (0, (l3 * 10) + ((φ 2 ((φ 1 4).toNat)) - 48)))) (b := 3) (e := 0) (by decide +kernel) rfl ?_
        refine hw_ald (b := 0) (e := 0) (by decide +kernel) (get_st1 (get_st1 g0 (by decide) (fun q => absurd q.1 (by decide))) (by decide) (fun q => absurd q.1 (by decide))) (by decide) ?_
        refine hw_dup (a0 := 0) (e := 0) (by decide +kernel) (by decide) ?_
        refine hr_gi (w := φ 1 4) (b := 1) (e := 4) 1 rfl (by decide +kernel) rfl ?_
        refine hw_k (c := 1) (b := 0) (e := 1) (by decide +kernel) ?_
        refine hw_bin (w := (φ 1 4) + 1) (a0 := 0) (b := 0) (e := 0) (by decide +kernel) rfl ?_
        refine hr_pi (b := 1) (e := 4) 1 rfl (by decide +kernel) ?_
        refine hw_goto (a0 := 0) (b := 0) (e := 9) (by decide +kernel) ?_
        exact H
      · have H := hf21 q
        refine hw_inc (L' := (jm_st1 L 1 (0, l1 + 1))) (c := 1) (b := 1) (e := 0) (by decide +kernel) g1 rfl ?_
        refine hw_lld (b := 4) (e := 1) (by decide +kernel) (get_st1 g4 (by decide) (fun q => absurd q.1 (by decide))) ?_
        refine hw_ald (b := 0) (e := 0) (by decide +kernel) (get_st1 g0 (by decide) (fun q => tg2 q.2)) (by decide) ?_
        refine hr_gr (w := 2) (b := 1) (e := 0) 1 rfl (by decide +kernel) ?_
        refine hw_ald (b := 0) (e := 0) (by decide +kernel) (get_st1 g0 (by decide) (fun q => tg2 q.2)) (by decide) ?_
        refine hr_gi (w := φ 1 4) (b := 1) (e := 4) 1 rfl (by decide +kernel) rfl ?_
        obtain ⟨hl23, hu23, H⟩ := H
        refine hr_al (b := 1) (a0 := 0) (e := 0) (n := 940) (w := φ 2 ((φ 1 4).toNat)) 2 rfl (by decide +kernel) (by decide) hl23 hu23 rfl ?_
        refine hr_calls (b := 9) (e := 2) (nl := 3) (As := [(1, l4), (0, φ 2 ((φ 1 4).toNat))]) (R := []) (by decide +kernel) rfl rfl (Nat.le_of_ble_eq_true rfl) (Nat.le_of_ble_eq_true rfl) ?_
        refine hw_mono H ?_
        rintro r ψ24 y24 ⟨hyx, hψx, z24, hr, H⟩
        subst hyx
        subst hψx
        subst hr
        refine ⟨hne1, ?_⟩
        show hw sc (d + 1) 33 82 (jm_st1 L 1 (0, l1 + 1)) [(1, z24)] φ y24 Q
        refine hw_lst (L' := (jm_st2 (jm_st1 L 1 (0, l1 + 1)) 4 (1, z24))) (b := 4) (e := 1) (by decide +kernel) rfl ?_
        refine hw_goto (a0 := 0) (b := 0) (e := 108) (by decide +kernel) ?_
        refine hw_ald (b := 0) (e := 0) (by decide +kernel) (get_st2 (get_st1 g0 (by decide) (fun q => tg2 q.2)) (by decide) (by decide) (fun q => absurd q.1 (by decide))) (by decide) ?_
        refine hw_dup (a0 := 0) (e := 0) (by decide +kernel) (by decide) ?_
        refine hr_gi (w := φ 1 4) (b := 1) (e := 4) 1 rfl (by decide +kernel) rfl ?_
        refine hw_k (c := 1) (b := 0) (e := 1) (by decide +kernel) ?_
        refine hw_bin (w := (φ 1 4) + 1) (a0 := 0) (b := 0) (e := 0) (by decide +kernel) rfl ?_
        refine hr_pi (b := 1) (e := 4) 1 rfl (by decide +kernel) ?_
        refine hw_goto (a0 := 0) (b := 0) (e := 9) (by decide +kernel) ?_
        exact H
    · have H := hf18 q
      refine hw_ald (b := 0) (e := 0) (by decide +kernel) g0 (by decide) ?_
      refine hr_gr (w := 2) (b := 1) (e := 0) 1 rfl (by decide +kernel) ?_
      refine hw_ald (b := 0) (e := 0) (by decide +kernel) g0 (by decide) ?_
      refine hr_gi (w := φ 1 4) (b := 1) (e := 4) 1 rfl (by decide +kernel) rfl ?_
      obtain ⟨hl25, hu25, H⟩ := H
      refine hr_al (b := 1) (a0 := 0) (e := 0) (n := 940) (w := φ 2 ((φ 1 4).toNat)) 2 rfl (by decide +kernel) (by decide) hl25 hu25 rfl ?_
      refine hr_calls (b := 32) (e := 1) (nl := 1) (As := [(0, φ 2 ((φ 1 4).toNat))]) (R := []) (by decide +kernel) rfl rfl (Nat.le_of_ble_eq_true rfl) (Nat.le_of_ble_eq_true rfl) ?_
      refine hw_mono H ?_
      rintro r ψ26 y26 ⟨hyx, hψx, z26, hr, H⟩
      subst hyx
      subst hψx
      subst hr
      refine ⟨hne0, ?_⟩
      show hw sc (d + 1) 33 47 L [(0, z26)] φ y26 Q
      obtain ⟨hz27, ht27, hf27⟩ := H
      refine hw_if (a0 := 0) (b := 0) (e := 121) (by decide +kernel) hz27 (fun q => ?_) (fun q => ?_)
      · have H := ht27 q
        refine hw_ld (b := 2) (e := 0) (by decide +kernel) g2 ?_
        obtain ⟨hz28, ht28, hf28⟩ := H
        refine hw_if (a0 := 0) (b := 1) (e := 140) (by decide +kernel) hz28 (fun q => ?_) (fun q => ?_)
        · have H := ht28 q
          refine hw_ld (b := 1) (e := 0) (by decide +kernel) g1 ?_
          obtain ⟨hz29, ht29, hf29⟩ := H
          refine hw_if (a0 := 0) (b := 1) (e := 162) (by decide +kernel) hz29 (fun q => ?_) (fun q => ?_)
          · have H := ht29 q
            refine hw_ald (b := 0) (e := 0) (by decide +kernel) g0 (by decide) ?_
            refine hw_k (c := 1) (b := 0) (e := 1) (by decide +kernel) ?_
            refine hr_pi (b := 1) (e := 5) 1 rfl (by decide +kernel) ?_
            exact hw_vret (a0 := 0) (e := 0) (by decide +kernel) H
          · have H := hf29 q
            refine hw_ld (b := 2) (e := 0) (by decide +kernel) g2 ?_
            refine hw_k (c := 3) (b := 0) (e := 1) (by decide +kernel) ?_
            obtain ⟨hz31, hy31, ht31, hf31⟩ := H
            refine hw_if2 (a0 := 0) (b := 4) (e := 162) (by decide +kernel) hz31 hy31 (fun q => ?_) (fun q => ?_)
            · have H := ht31 q
              refine hw_ald (b := 0) (e := 0) (by decide +kernel) g0 (by decide) ?_
              refine hw_k (c := 1) (b := 0) (e := 1) (by decide +kernel) ?_
              refine hr_pi (b := 1) (e := 5) 1 rfl (by decide +kernel) ?_
              exact hw_vret (a0 := 0) (e := 0) (by decide +kernel) H
            · have H := hf31 q
              refine hw_ald (b := 0) (e := 0) (by decide +kernel) g0 (by decide) ?_
              refine hw_k (c := 4) (b := 0) (e := 1) (by decide +kernel) ?_
              refine hr_pi (b := 1) (e := 5) 1 rfl (by decide +kernel) ?_
              refine hw_ald (b := 0) (e := 0) (by decide +kernel) g0 (by decide) ?_
              refine hw_ld (b := 3) (e := 0) (by decide +kernel) g3 ?_
              refine hr_pi (b := 1) (e := 7) 1 rfl (by decide +kernel) ?_
              refine hw_goto (a0 := 0) (b := 0) (e := 167) (by decide +kernel) ?_
              exact hw_vret (a0 := 0) (e := 0) (by decide +kernel) H
        · have H := hf28 q
          refine hw_ld (b := 1) (e := 0) (by decide +kernel) g1 ?_
          refine hw_k (c := 7) (b := 1) (e := 2) (by decide +kernel) ?_
          obtain ⟨hz34, hy34, ht34, hf34⟩ := H
          refine hw_if2 (a0 := 0) (b := 4) (e := 140) (by decide +kernel) hz34 hy34 (fun q => ?_) (fun q => ?_)
          · have H := ht34 q
            refine hw_ld (b := 1) (e := 0) (by decide +kernel) g1 ?_
            obtain ⟨hz35, ht35, hf35⟩ := H
            refine hw_if (a0 := 0) (b := 1) (e := 162) (by decide +kernel) hz35 (fun q => ?_) (fun q => ?_)
            · have H := ht35 q
              refine hw_ald (b := 0) (e := 0) (by decide +kernel) g0 (by decide) ?_
              refine hw_k (c := 1) (b := 0) (e := 1) (by decide +kernel) ?_
              refine hr_pi (b := 1) (e := 5) 1 rfl (by decide +kernel) ?_
              exact hw_vret (a0 := 0) (e := 0) (by decide +kernel) H
            · have H := hf35 q
              refine hw_ld (b := 2) (e := 0) (by decide +kernel) g2 ?_
              refine hw_k (c := 3) (b := 0) (e := 1) (by decide +kernel) ?_
              obtain ⟨hz37, hy37, ht37, hf37⟩ := H
              refine hw_if2 (a0 := 0) (b := 4) (e := 162) (by decide +kernel) hz37 hy37 (fun q => ?_) (fun q => ?_)
              · have H := ht37 q
                refine hw_ald (b := 0) (e := 0) (by decide +kernel) g0 (by decide) ?_
                refine hw_k (c := 1) (b := 0) (e := 1) (by decide +kernel) ?_
                refine hr_pi (b := 1) (e := 5) 1 rfl (by decide +kernel) ?_
                exact hw_vret (a0 := 0) (e := 0) (by decide +kernel) H
              · have H := hf37 q
                refine hw_ald (b := 0) (e := 0) (by decide +kernel) g0 (by decide) ?_
                refine hw_k (c := 4) (b := 0) (e := 1) (by decide +kernel) ?_
                refine hr_pi (b := 1) (e := 5) 1 rfl (by decide +kernel) ?_
                refine hw_ald (b := 0) (e := 0) (by decide +kernel) g0 (by decide) ?_
                refine hw_ld (b := 3) (e := 0) (by decide +kernel) g3 ?_
                refine hr_pi (b := 1) (e := 7) 1 rfl (by decide +kernel) ?_
                refine hw_goto (a0 := 0) (b := 0) (e := 167) (by decide +kernel) ?_
                exact hw_vret (a0 := 0) (e := 0) (by decide +kernel) H
          · have H := hf34 q
            refine hw_ald (b := 0) (e := 0) (by decide +kernel) g0 (by decide) ?_
            refine hw_lld (b := 4) (e := 1) (by decide +kernel) g4 ?_
            refine hr_call (a0 := 11) (b := 34) (e := 2) (nl := 4) (As := [(1, l4)]) (R := []) 1 rfl (by decide +kernel) rfl rfl (Nat.le_of_ble_eq_true rfl) (Nat.le_of_ble_eq_true rfl) ?_
            refine hw_mono H ?_
            rintro r ψ40 y40 ⟨hyx, hr, H⟩
            subst hyx
            subst hr
            refine ⟨hnen, ?_⟩
            show hw sc (d + 1) 33 137 L [] ψ40 y40 Q
            refine hw_goto (a0 := 0) (b := 0) (e := 167) (by decide +kernel) ?_
            exact hw_vret (a0 := 0) (e := 0) (by decide +kernel) H
      · have H := hf27 q
        refine hw_ald (b := 0) (e := 0) (by decide +kernel) g0 (by decide) ?_
        refine hr_gr (w := 2) (b := 1) (e := 0) 1 rfl (by decide +kernel) ?_
        refine hw_ald (b := 0) (e := 0) (by decide +kernel) g0 (by decide) ?_
        refine hr_gi (w := φ 1 4) (b := 1) (e := 4) 1 rfl (by decide +kernel) rfl ?_
        obtain ⟨hl42, hu42, H⟩ := H
        refine hr_al (b := 1) (a0 := 0) (e := 0) (n := 940) (w := φ 2 ((φ 1 4).toNat)) 2 rfl (by decide +kernel) (by decide) hl42 hu42 rfl ?_
        refine hr_calls (b := 31) (e := 1) (nl := 1) (As := [(0, φ 2 ((φ 1 4).toNat))]) (R := []) (by decide +kernel) rfl rfl (Nat.le_of_ble_eq_true rfl) (Nat.le_of_ble_eq_true rfl) ?_
        refine hw_mono H ?_
        rintro r ψ43 y43 ⟨hyx, hψx, z43, hr, H⟩
        subst hyx
        subst hψx
        subst hr
        refine ⟨hne0, ?_⟩
        show hw sc (d + 1) 33 62 L [(0, z43)] φ y43 Q
        obtain ⟨hz44, ht44, hf44⟩ := H
        refine hw_if (a0 := 0) (b := 0) (e := 87) (by decide +kernel) hz44 (fun q => ?_) (fun q => ?_)
        · have H := ht44 q
          refine hw_inc (L' := (jm_st1 L 2 (0, l2 + 1))) (c := 1) (b := 2) (e := 0) (by decide +kernel) g2 rfl ?_
          refine hw_ld (b := 3) (e := 0) (by decide +kernel) (get_st1 g3 (by decide) (fun q => absurd q.1 (by decide))) ?_
          refine hw_k (c := 10) (b := 1) (e := 2) (by decide +kernel) ?_
          refine hw_bin (w := l3 * 10) (a0 := 0) (b := 2) (e := 0) (by decide +kernel) rfl ?_
          refine hw_ald (b := 0) (e := 0) (by decide +kernel) (get_st1 g0 (by decide) (fun q => absurd q.1 (by decide))) (by decide) ?_
          refine hr_gr (w := 2) (b := 1) (e := 0) 1 rfl (by decide +kernel) ?_
          refine hw_ald (b := 0) (e := 0) (by decide +kernel) (get_st1 g0 (by decide) (fun q => absurd q.1 (by decide))) (by decide) ?_
          refine hr_gi (w := φ 1 4) (b := 1) (e := 4) 1 rfl (by decide +kernel) rfl ?_
          obtain ⟨hl45, hu45, H⟩ := H
          refine hr_al (b := 1) (a0 := 0) (e := 0) (n := 940) (w := φ 2 ((φ 1 4).toNat)) 2 rfl (by decide +kernel) (by decide) hl45 hu45 rfl ?_
          refine hw_k (c := 48) (b := 1) (e := 2) (by decide +kernel) ?_
          refine hw_bin (w := (φ 2 ((φ 1 4).toNat)) - 48) (a0 := 0) (b := 1) (e := 0) (by decide +kernel) rfl ?_
          refine hw_bin (w := (l3 * 10) + ((φ 2 ((φ 1 4).toNat)) - 48)) (a0 := 0) (b := 0) (e := 0) (by decide +kernel) rfl ?_
          refine hw_st (L' := (jm_st1 (jm_st1 L 2 (0, l2 + 1)) 3 (0, (l3 * 10) + ((φ 2 ((φ 1 4).toNat)) - 48)))) (b := 3) (e := 0) (by decide +kernel) rfl ?_
          refine hw_ald (b := 0) (e := 0) (by decide +kernel) (get_st1 (get_st1 g0 (by decide) (fun q => absurd q.1 (by decide))) (by decide) (fun q => absurd q.1 (by decide))) (by decide) ?_
          refine hw_dup (a0 := 0) (e := 0) (by decide +kernel) (by decide) ?_
          refine hr_gi (w := φ 1 4) (b := 1) (e := 4) 1 rfl (by decide +kernel) rfl ?_
          refine hw_k (c := 1) (b := 0) (e := 1) (by decide +kernel) ?_
          refine hw_bin (w := (φ 1 4) + 1) (a0 := 0) (b := 0) (e := 0) (by decide +kernel) rfl ?_
          refine hr_pi (b := 1) (e := 4) 1 rfl (by decide +kernel) ?_
          refine hw_goto (a0 := 0) (b := 0) (e := 9) (by decide +kernel) ?_
          exact H
        · have H := hf44 q
          refine hw_inc (L' := (jm_st1 L 1 (0, l1 + 1))) (c := 1) (b := 1) (e := 0) (by decide +kernel) g1 rfl ?_
          refine hw_lld (b := 4) (e := 1) (by decide +kernel) (get_st1 g4 (by decide) (fun q => absurd q.1 (by decide))) ?_
          refine hw_ald (b := 0) (e := 0) (by decide +kernel) (get_st1 g0 (by decide) (fun q => tg2 q.2)) (by decide) ?_
          refine hr_gr (w := 2) (b := 1) (e := 0) 1 rfl (by decide +kernel) ?_
          refine hw_ald (b := 0) (e := 0) (by decide +kernel) (get_st1 g0 (by decide) (fun q => tg2 q.2)) (by decide) ?_
          refine hr_gi (w := φ 1 4) (b := 1) (e := 4) 1 rfl (by decide +kernel) rfl ?_
          obtain ⟨hl46, hu46, H⟩ := H
          refine hr_al (b := 1) (a0 := 0) (e := 0) (n := 940) (w := φ 2 ((φ 1 4).toNat)) 2 rfl (by decide +kernel) (by decide) hl46 hu46 rfl ?_
          refine hr_calls (b := 9) (e := 2) (nl := 3) (As := [(1, l4), (0, φ 2 ((φ 1 4).toNat))]) (R := []) (by decide +kernel) rfl rfl (Nat.le_of_ble_eq_true rfl) (Nat.le_of_ble_eq_true rfl) ?_
          refine hw_mono H ?_
          rintro r ψ47 y47 ⟨hyx, hψx, z47, hr, H⟩
          subst hyx
          subst hψx
          subst hr
          refine ⟨hne1, ?_⟩
          show hw sc (d + 1) 33 82 (jm_st1 L 1 (0, l1 + 1)) [(1, z47)] φ y47 Q
          refine hw_lst (L' := (jm_st2 (jm_st1 L 1 (0, l1 + 1)) 4 (1, z47))) (b := 4) (e := 1) (by decide +kernel) rfl ?_
          refine hw_goto (a0 := 0) (b := 0) (e := 108) (by decide +kernel) ?_
          refine hw_ald (b := 0) (e := 0) (by decide +kernel) (get_st2 (get_st1 g0 (by decide) (fun q => tg2 q.2)) (by decide) (by decide) (fun q => absurd q.1 (by decide))) (by decide) ?_
          refine hw_dup (a0 := 0) (e := 0) (by decide +kernel) (by decide) ?_
          refine hr_gi (w := φ 1 4) (b := 1) (e := 4) 1 rfl (by decide +kernel) rfl ?_
          refine hw_k (c := 1) (b := 0) (e := 1) (by decide +kernel) ?_
          refine hw_bin (w := (φ 1 4) + 1) (a0 := 0) (b := 0) (e := 0) (by decide +kernel) rfl ?_
          refine hr_pi (b := 1) (e := 4) 1 rfl (by decide +kernel) ?_
          refine hw_goto (a0 := 0) (b := 0) (e := 9) (by decide +kernel) ?_
          exact H
theorem sf_33_1_l9 {sc : List Int} {d x : Nat} {Q : Option jm_V → hf_F → Nat → Prop} : ∀ (n : Nat) (φ : hf_F) (L : jm_L) (l1 l2 l3 l4 : Int), jm_get L 0 = some (2, 1) → jm_get L 1 = some (0, l1) → jm_get L 2 = some (0, l2) → jm_get L 3 = some (0, l3) → jm_get L 4 = some (1, l4) → Inv φ → 940 - φ 1 4 < (n : Int) → 0 ≤ l1 → l1 ≤ 940 → 0 ≤ l2 → l2 ≤ 940 → l1 + l2 ≤ φ 1 4 → (l2 = 0 → l3 = 0) → (l2 = 1 → 0 ≤ l3 ∧ l3 ≤ 9) → (l2 = 2 → 0 ≤ l3 ∧ l3 ≤ 99) → (l2 = 3 → 0 ≤ l3 ∧ l3 ≤ 999) → (∀ ψ : hf_F, Inv ψ → Fr [2004, 2005, 2007, 2008] φ ψ → F_Reader_readRun_1_l9 n φ l1 l2 l3 l4 = ψ → Q none ψ x) → hw sc (d + 1) 33 9 L [] φ x Q := by
  intro n
  induction n with
  | zero =>
    intro φ L l1 l2 l3 l4 g0 g1 g2 g3 g4 hI hM b1a b1b b2a b2b c0 c1 c2 c3 c4 hQ
    have fm1_4 := iv_at (a := 1) (k := 4) (lo := 0) (u := 940) hI (by decide +kernel)
    exfalso
    omega
  | succ n ih =>
    intro φ L l1 l2 l3 l4 g0 g1 g2 g3 g4 hI hM b1a b1b b2a b2b c0 c1 c2 c3 c4 hQ
    have fm1_4 := iv_at (a := 1) (k := 4) (lo := 0) (u := 940) hI (by decide +kernel)
    refine sf_33_1_v9 g0 g1 g2 g3 g4 ?_
    have e0 := F_Reader_readRun_1_l9_s (φ := φ) (l1 := l1) (l2 := l2) (l3 := l3) (l4 := l4) n
    have f1 := iv_at (a := 1) (k := 4) (lo := 0) (u := 940) hI (by decide +kernel)
    have f2 := iv_at (a := 1) (k := 2) (lo := 0) (u := 940) hI (by decide +kernel)
    refine ⟨by unfold hi; omega, by unfold hi; omega, fun q1 => ?_, fun q1 => ?_⟩
    · skip
      have e1a := e0.trans (if_pos q1)
      refine ⟨by unfold hi; omega, fun q2 => ?_, fun q2 => ?_⟩
      · skip
        have e2a := e1a.trans (if_pos q2)
        refine ⟨by unfold hi; omega, fun q3 => ?_, fun q3 => ?_⟩
        · skip
          have e3a := e2a.trans (if_pos q3)
          have i3 : Inv (hf_up φ 1 5 1) := iv_up (lo := 0) (u := 5) hI (by decide +kernel) (by omega) (by omega)
          have r3 : Fr [2004, 2005, 2007, 2008] φ (hf_up φ 1 5 1) := fr_up (fr_rf) (by decide)
          exact hQ (hf_up φ 1 5 1) i3 r3 e3a
        · skip
          have e3b := e2a.trans (if_neg q3)
          refine ⟨by unfold hi; omega, by unfold hi; omega, fun q5 => ?_, fun q5 => ?_⟩
          · skip
            have e5a := e3b.trans (if_pos q5)
            have i4 : Inv (hf_up φ 1 5 1) := iv_up (lo := 0) (u := 5) hI (by decide +kernel) (by omega) (by omega)
            have r4 : Fr [2004, 2005, 2007, 2008] φ (hf_up φ 1 5 1) := fr_up (fr_rf) (by decide)
            exact hQ (hf_up φ 1 5 1) i4 r4 e5a
          · skip
            have e5b := e3b.trans (if_neg q5)
            have i5 : Inv (hf_up φ 1 5 4) := iv_up (lo := 0) (u := 5) hI (by decide +kernel) (by omega) (by omega)
            have r5 : Fr [2004, 2005, 2007, 2008] φ (hf_up φ 1 5 4) := fr_up (fr_rf) (by decide)
            have i6 : Inv (hf_up (hf_up φ 1 5 4) 1 7 l3) := iv_up (lo := (-128 : Int)) (u := 999) i5 (by decide +kernel) (by omega) (by omega)
            have r6 : Fr [2004, 2005, 2007, 2008] φ (hf_up (hf_up φ 1 5 4) 1 7 l3) := fr_up r5 (by decide)
            exact hQ (hf_up (hf_up φ 1 5 4) 1 7 l3) i6 r6 e5b
      · skip
        have e2b := e1a.trans (if_neg q2)
        refine ⟨by unfold hi; omega, by unfold hi; omega, fun q8 => ?_, fun q8 => ?_⟩
        · skip
          have e8a := e2b.trans (if_pos q8)
          refine ⟨by unfold hi; omega, fun q9 => ?_, fun q9 => ?_⟩
          · skip
            have e9a := e8a.trans (if_pos q9)
            have i7 : Inv (hf_up φ 1 5 1) := iv_up (lo := 0) (u := 5) hI (by decide +kernel) (by omega) (by omega)
            have r7 : Fr [2004, 2005, 2007, 2008] φ (hf_up φ 1 5 1) := fr_up (fr_rf) (by decide)
            exact hQ (hf_up φ 1 5 1) i7 r7 e9a
          · skip
            have e9b := e8a.trans (if_neg q9)
            refine ⟨by unfold hi; omega, by unfold hi; omega, fun q11 => ?_, fun q11 => ?_⟩
            · skip
              have e11a := e9b.trans (if_pos q11)
              have i8 : Inv (hf_up φ 1 5 1) := iv_up (lo := 0) (u := 5) hI (by decide +kernel) (by omega) (by omega)
              have r8 : Fr [2004, 2005, 2007, 2008] φ (hf_up φ 1 5 1) := fr_up (fr_rf) (by decide)
              exact hQ (hf_up φ 1 5 1) i8 r8 e11a
            · skip
              have e11b := e9b.trans (if_neg q11)
              have i9 : Inv (hf_up φ 1 5 4) := iv_up (lo := 0) (u := 5) hI (by decide +kernel) (by omega) (by omega)
              have r9 : Fr [2004, 2005, 2007, 2008] φ (hf_up φ 1 5 4) := fr_up (fr_rf) (by decide)
              have i10 : Inv (hf_up (hf_up φ 1 5 4) 1 7 l3) := iv_up (lo := (-128 : Int)) (u := 999) i9 (by decide +kernel) (by omega) (by omega)
              have r10 : Fr [2004, 2005, 2007, 2008] φ (hf_up (hf_up φ 1 5 4) 1 7 l3) := fr_up r9 (by decide)
              exact hQ (hf_up (hf_up φ 1 5 4) 1 7 l3) i10 r10 e11b
        · skip
          have e8b := e2b.trans (if_neg q8)
          refine sf_34_1 (φ := φ) hI  (fun ψ14 hI14 hF14 hE14 => ⟨rfl, rfl, ?_⟩)
          have hG14 : Fr [2004, 2005, 2007, 2008] φ ψ14 := fr_tr (fr_rf) hF14 (by decide)
          have e14 := e8b.trans (bnv_e hE14)
          exact hQ ψ14 hI14 hG14 e14
    · skip
      have e1b := e0.trans (if_neg q1)
      refine ⟨by omega, by omega, ?_⟩
      have f11 := iv_ar (a := 2) (s := 0) (t := 940) (lo := (-128 : Int)) (u := 127) (z := φ 1 4) hI (by decide +kernel) (by omega) (by omega)
      refine sf_31 (φ := φ) hI (by omega) (by omega) (fun z17 hp17 hE17 => ⟨rfl, rfl, z17, rfl, ?_⟩)
      have e17 := e1b.trans (bnp_e hE17)
      refine ⟨by unfold hi; omega, fun q18 => ?_, fun q18 => ?_⟩
      · skip
        have e18a := e17.trans (if_pos q18)
        refine ⟨by omega, by omega, ?_⟩
        refine sf_31 (φ := φ) hI (by omega) (by omega) (fun z20 hp20 hE20 => ⟨rfl, rfl, z20, rfl, ?_⟩)
        have e20 := e18a.trans (bnp_e hE20)
        refine ⟨by unfold hi; omega, fun q21 => ?_, fun q21 => ?_⟩
        · skip
          have e21a := e20.trans (if_pos q21)
          refine ⟨by omega, by omega, ?_⟩
          have i12 : Inv (hf_up φ 1 4 ((φ 1 4) + 1)) := iv_up (lo := 0) (u := 940) hI (by decide +kernel) (by omega) (by omega)
          have r12 : Fr [2004, 2005, 2007, 2008] φ (hf_up φ 1 4 ((φ 1 4) + 1)) := fr_up (fr_rf) (by decide)
          have f13 : (hf_up φ 1 4 ((φ 1 4) + 1)) 1 4 = (φ 1 4) + 1 := hf_up_eq
          exact ih (hf_up φ 1 4 ((φ 1 4) + 1)) (jm_st1 (jm_st1 L 2 (0, l2 + 1)) 3 (0, (l3 * 10) + ((φ 2 ((φ 1 4).toNat)) - 48))) l1 (l2 + 1) ((l3 * 10) + ((φ 2 ((φ 1 4).toNat)) - 48)) l4 (get_st1 (get_st1 g0 (by decide) (fun q => absurd q.1 (by decide))) (by decide) (fun q => absurd q.1 (by decide))) (get_st1 (get_st1 g1 (by decide) (fun q => tg0 q.2)) (by decide) (fun q => absurd q.1 (by decide))) (get_st1 get_st1e (by decide) (fun q => tg0 q.2)) get_st1e (get_st1 (get_st1 g4 (by decide) (fun q => absurd q.1 (by decide))) (by decide) (fun q => absurd q.1 (by decide))) i12 (by omega) (by omega) (by omega) (by omega) (by omega) (by omega) (by omega) (by omega) (by omega) (by omega) (fun χ hIχ hFχ hEχ => hQ χ hIχ (fr_tr r12 hFχ (by decide)) (e21a.trans hEχ))
        · skip
          have e21b := e20.trans (if_neg q21)
          refine ⟨by omega, by omega, ?_⟩
          refine sf_9 (φ := φ) hI (by omega) (by omega) (fun z24 hp24 hE24 => ⟨rfl, rfl, z24, rfl, ?_⟩)
          have e24 := e21b.trans (bnp_e hE24)
          have i14 : Inv (hf_up φ 1 4 ((φ 1 4) + 1)) := iv_up (lo := 0) (u := 940) hI (by decide +kernel) (by omega) (by omega)
          have r14 : Fr [2004, 2005, 2007, 2008] φ (hf_up φ 1 4 ((φ 1 4) + 1)) := fr_up (fr_rf) (by decide)
          have f15 : (hf_up φ 1 4 ((φ 1 4) + 1)) 1 4 = (φ 1 4) + 1 := hf_up_eq
          exact ih (hf_up φ 1 4 ((φ 1 4) + 1)) (jm_st2 (jm_st1 L 1 (0, l1 + 1)) 4 (1, z24)) (l1 + 1) l2 l3 z24 (get_st2 (get_st1 g0 (by decide) (fun q => tg2 q.2)) (by decide) (by decide) (fun q => absurd q.1 (by decide))) (get_st2 get_st1e (by decide) (by decide) (fun q => absurd q.1 (by decide))) (get_st2 (get_st1 g2 (by decide) (fun q => absurd q.1 (by decide))) (by decide) (by decide) (fun q => absurd q.1 (by decide))) (get_st2 (get_st1 g3 (by decide) (fun q => absurd q.1 (by decide))) (by decide) (by decide) (fun q => tg0 q.2)) get_st2e i14 (by omega) (by omega) (by omega) (by omega) (by omega) (by omega) (by omega) (by omega) (by omega) (by omega) (fun χ hIχ hFχ hEχ => hQ χ hIχ (fr_tr r14 hFχ (by decide)) (e24.trans hEχ))
      · skip
        have e18b := e17.trans (if_neg q18)
        refine ⟨by omega, by omega, ?_⟩
        refine sf_32 (φ := φ) hI (by omega) (by omega) (fun z26 hp26 hE26 => ⟨rfl, rfl, z26, rfl, ?_⟩)
        have e26 := e18b.trans (bnp_e hE26)
        refine ⟨by unfold hi; omega, fun q27 => ?_, fun q27 => ?_⟩
        · skip
          have e27a := e26.trans (if_pos q27)
          refine ⟨by unfold hi; omega, fun q28 => ?_, fun q28 => ?_⟩
          · skip
            have e28a := e27a.trans (if_pos q28)
            refine ⟨by unfold hi; omega, fun q29 => ?_, fun q29 => ?_⟩
            · skip
              have e29a := e28a.trans (if_pos q29)
              have i16 : Inv (hf_up φ 1 5 1) := iv_up (lo := 0) (u := 5) hI (by decide +kernel) (by omega) (by omega)
              have r16 : Fr [2004, 2005, 2007, 2008] φ (hf_up φ 1 5 1) := fr_up (fr_rf) (by decide)
              exact hQ (hf_up φ 1 5 1) i16 r16 e29a
            · skip
              have e29b := e28a.trans (if_neg q29)
              refine ⟨by unfold hi; omega, by unfold hi; omega, fun q31 => ?_, fun q31 => ?_⟩
              · skip
                have e31a := e29b.trans (if_pos q31)
                have i17 : Inv (hf_up φ 1 5 1) := iv_up (lo := 0) (u := 5) hI (by decide +kernel) (by omega) (by omega)
                have r17 : Fr [2004, 2005, 2007, 2008] φ (hf_up φ 1 5 1) := fr_up (fr_rf) (by decide)
                exact hQ (hf_up φ 1 5 1) i17 r17 e31a
              · skip
                have e31b := e29b.trans (if_neg q31)
                have i18 : Inv (hf_up φ 1 5 4) := iv_up (lo := 0) (u := 5) hI (by decide +kernel) (by omega) (by omega)
                have r18 : Fr [2004, 2005, 2007, 2008] φ (hf_up φ 1 5 4) := fr_up (fr_rf) (by decide)
                have i19 : Inv (hf_up (hf_up φ 1 5 4) 1 7 l3) := iv_up (lo := (-128 : Int)) (u := 999) i18 (by decide +kernel) (by omega) (by omega)
                have r19 : Fr [2004, 2005, 2007, 2008] φ (hf_up (hf_up φ 1 5 4) 1 7 l3) := fr_up r18 (by decide)
                exact hQ (hf_up (hf_up φ 1 5 4) 1 7 l3) i19 r19 e31b
          · skip
            have e28b := e27a.trans (if_neg q28)
            refine ⟨by unfold hi; omega, by unfold hi; omega, fun q34 => ?_, fun q34 => ?_⟩
            · skip
              have e34a := e28b.trans (if_pos q34)
              refine ⟨by unfold hi; omega, fun q35 => ?_, fun q35 => ?_⟩
              · skip
                have e35a := e34a.trans (if_pos q35)
                have i20 : Inv (hf_up φ 1 5 1) := iv_up (lo := 0) (u := 5) hI (by decide +kernel) (by omega) (by omega)
                have r20 : Fr [2004, 2005, 2007, 2008] φ (hf_up φ 1 5 1) := fr_up (fr_rf) (by decide)
                exact hQ (hf_up φ 1 5 1) i20 r20 e35a
              · skip
                have e35b := e34a.trans (if_neg q35)
                refine ⟨by unfold hi; omega, by unfold hi; omega, fun q37 => ?_, fun q37 => ?_⟩
                · skip
                  have e37a := e35b.trans (if_pos q37)
                  have i21 : Inv (hf_up φ 1 5 1) := iv_up (lo := 0) (u := 5) hI (by decide +kernel) (by omega) (by omega)
                  have r21 : Fr [2004, 2005, 2007, 2008] φ (hf_up φ 1 5 1) := fr_up (fr_rf) (by decide)
                  exact hQ (hf_up φ 1 5 1) i21 r21 e37a
                · skip
                  have e37b := e35b.trans (if_neg q37)
                  have i22 : Inv (hf_up φ 1 5 4) := iv_up (lo := 0) (u := 5) hI (by decide +kernel) (by omega) (by omega)
                  have r22 : Fr [2004, 2005, 2007, 2008] φ (hf_up φ 1 5 4) := fr_up (fr_rf) (by decide)
                  have i23 : Inv (hf_up (hf_up φ 1 5 4) 1 7 l3) := iv_up (lo := (-128 : Int)) (u := 999) i22 (by decide +kernel) (by omega) (by omega)
                  have r23 : Fr [2004, 2005, 2007, 2008] φ (hf_up (hf_up φ 1 5 4) 1 7 l3) := fr_up r22 (by decide)
                  exact hQ (hf_up (hf_up φ 1 5 4) 1 7 l3) i23 r23 e37b
            · skip
              have e34b := e28b.trans (if_neg q34)
              refine sf_34_1 (φ := φ) hI  (fun ψ40 hI40 hF40 hE40 => ⟨rfl, rfl, ?_⟩)
              have hG40 : Fr [2004, 2005, 2007, 2008] φ ψ40 := fr_tr (fr_rf) hF40 (by decide)
              have e40 := e34b.trans (bnv_e hE40)
              exact hQ ψ40 hI40 hG40 e40
        · skip
          have e27b := e26.trans (if_neg q27)
          refine ⟨by omega, by omega, ?_⟩
          refine sf_31 (φ := φ) hI (by omega) (by omega) (fun z43 hp43 hE43 => ⟨rfl, rfl, z43, rfl, ?_⟩)
          have e43 := e27b.trans (bnp_e hE43)
          refine ⟨by unfold hi; omega, fun q44 => ?_, fun q44 => ?_⟩
          · skip
            have e44a := e43.trans (if_pos q44)
            refine ⟨by omega, by omega, ?_⟩
            have i24 : Inv (hf_up φ 1 4 ((φ 1 4) + 1)) := iv_up (lo := 0) (u := 940) hI (by decide +kernel) (by omega) (by omega)
            have r24 : Fr [2004, 2005, 2007, 2008] φ (hf_up φ 1 4 ((φ 1 4) + 1)) := fr_up (fr_rf) (by decide)
            have f25 : (hf_up φ 1 4 ((φ 1 4) + 1)) 1 4 = (φ 1 4) + 1 := hf_up_eq
            exact ih (hf_up φ 1 4 ((φ 1 4) + 1)) (jm_st1 (jm_st1 L 2 (0, l2 + 1)) 3 (0, (l3 * 10) + ((φ 2 ((φ 1 4).toNat)) - 48))) l1 (l2 + 1) ((l3 * 10) + ((φ 2 ((φ 1 4).toNat)) - 48)) l4 (get_st1 (get_st1 g0 (by decide) (fun q => absurd q.1 (by decide))) (by decide) (fun q => absurd q.1 (by decide))) (get_st1 (get_st1 g1 (by decide) (fun q => tg0 q.2)) (by decide) (fun q => absurd q.1 (by decide))) (get_st1 get_st1e (by decide) (fun q => tg0 q.2)) get_st1e (get_st1 (get_st1 g4 (by decide) (fun q => absurd q.1 (by decide))) (by decide) (fun q => absurd q.1 (by decide))) i24 (by omega) (by omega) (by omega) (by omega) (by omega) (by omega) (by omega) (by omega) (by omega) (by omega) (fun χ hIχ hFχ hEχ => hQ χ hIχ (fr_tr r24 hFχ (by decide)) (e44a.trans hEχ))
          · skip
            have e44b := e43.trans (if_neg q44)
            refine ⟨by omega, by omega, ?_⟩
            refine sf_9 (φ := φ) hI (by omega) (by omega) (fun z47 hp47 hE47 => ⟨rfl, rfl, z47, rfl, ?_⟩)
            have e47 := e44b.trans (bnp_e hE47)
            have i26 : Inv (hf_up φ 1 4 ((φ 1 4) + 1)) := iv_up (lo := 0) (u := 940) hI (by decide +kernel) (by omega) (by omega)
            have r26 : Fr [2004, 2005, 2007, 2008] φ (hf_up φ 1 4 ((φ 1 4) + 1)) := fr_up (fr_rf) (by decide)
            have f27 : (hf_up φ 1 4 ((φ 1 4) + 1)) 1 4 = (φ 1 4) + 1 := hf_up_eq
            exact ih (hf_up φ 1 4 ((φ 1 4) + 1)) (jm_st2 (jm_st1 L 1 (0, l1 + 1)) 4 (1, z47)) (l1 + 1) l2 l3 z47 (get_st2 (get_st1 g0 (by decide) (fun q => tg2 q.2)) (by decide) (by decide) (fun q => absurd q.1 (by decide))) (get_st2 get_st1e (by decide) (by decide) (fun q => absurd q.1 (by decide))) (get_st2 (get_st1 g2 (by decide) (fun q => absurd q.1 (by decide))) (by decide) (by decide) (fun q => absurd q.1 (by decide))) (get_st2 (get_st1 g3 (by decide) (fun q => absurd q.1 (by decide))) (by decide) (by decide) (fun q => tg0 q.2)) get_st2e i26 (by omega) (by omega) (by omega) (by omega) (by omega) (by omega) (by omega) (by omega) (by omega) (by omega) (fun χ hIχ hFχ hEχ => hQ χ hIχ (fr_tr r26 hFχ (by decide)) (e47.trans hEχ))
theorem sf_33_1_v {sc : List Int} {d : Nat} {φ : hf_F} {x : Nat} {Q : Option jm_V → hf_F → Nat → Prop} 
    (H : hw sc (d + 1) 33 9 (jm_st2 (jm_st1 (jm_st1 (jm_st1 [(0, (2, 1))] 1 (0, 0)) 2 (0, 0)) 3 (0, 0)) 4 (1, 0)) [] φ x Q) :
    hw sc (d + 1) 33 0 [(0, (2, 1))] [] φ x Q := by
  refine hw_k (c := 0) (b := 0) (e := 1) (by decide +kernel) ?_
  refine hw_st (L' := (jm_st1 [(0, (2, 1))] 1 (0, 0))) (b := 1) (e := 0) (by decide +kernel) rfl ?_
  refine hw_k (c := 0) (b := 0) (e := 1) (by decide +kernel) ?_
  refine hw_st (L' := (jm_st1 (jm_st1 [(0, (2, 1))] 1 (0, 0)) 2 (0, 0))) (b := 2) (e := 0) (by decide +kernel) rfl ?_
  refine hw_k (c := 0) (b := 0) (e := 1) (by decide +kernel) ?_
  refine hw_st (L' := (jm_st1 (jm_st1 (jm_st1 [(0, (2, 1))] 1 (0, 0)) 2 (0, 0)) 3 (0, 0))) (b := 3) (e := 0) (by decide +kernel) rfl ?_
  refine hw_lk (c := 0) (b := 0) (e := 1) (by decide +kernel) ?_
  refine hw_lst (L' := (jm_st2 (jm_st1 (jm_st1 (jm_st1 [(0, (2, 1))] 1 (0, 0)) 2 (0, 0)) 3 (0, 0)) 4 (1, 0))) (b := 4) (e := 1) (by decide +kernel) rfl ?_
  exact H
theorem sf_33_1 {sc : List Int} {d : Nat} {φ : hf_F} {x : Nat} {Q : Option jm_V → hf_F → Nat → Prop}  (hI : Inv φ)  (hQ : ∀ ψ : hf_F, Inv ψ → Fr [2004, 2005, 2007, 2008] φ ψ → F_Reader_readRun_1 φ = ψ → Q none ψ x) : hw sc (d + 1) 33 0 [(0, (2, 1))] [] φ x Q := by
  apply sf_33_1_v
  have e0 : F_Reader_readRun_1 φ = _ := rfl
  have f1 := iv_at (a := 1) (k := 4) (lo := 0) (u := 940) hI (by decide +kernel)
  exact sf_33_1_l9 ((940 - φ 1 4 : Int).toNat + 1) φ (jm_st2 (jm_st1 (jm_st1 (jm_st1 [(0, (2, 1))] 1 (0, 0)) 2 (0, 0)) 3 (0, 0)) 4 (1, 0)) 0 0 0 0 (get_st2 (get_st1 (get_st1 (get_st1 rfl (by decide) (fun q => tg2 q.2)) (by decide) (fun q => absurd q.1 (by decide))) (by decide) (fun q => absurd q.1 (by decide))) (by decide) (by decide) (fun q => absurd q.1 (by decide))) (get_st2 (get_st1 (get_st1 get_st1e (by decide) (fun q => tg0 q.2)) (by decide) (fun q => absurd q.1 (by decide))) (by decide) (by decide) (fun q => absurd q.1 (by decide))) (get_st2 (get_st1 get_st1e (by decide) (fun q => tg0 q.2)) (by decide) (by decide) (fun q => absurd q.1 (by decide))) (get_st2 get_st1e (by decide) (by decide) (fun q => tg0 q.2)) get_st2e hI (by omega) (by omega) (by omega) (by omega) (by omega) (by omega) (by omega) (by omega) (by omega) (by omega) (fun χ hIχ hFχ hEχ => hQ χ hIχ (fr_tr (fr_rf) hFχ (by decide)) (e0.trans hEχ))
theorem sf_35_v {sc : List Int} {d : Nat} {φ : hf_F} {x : Nat} {Q : Option jm_V → hf_F → Nat → Prop} {v0 : Int}
    (H : hi v0 ∧ hi 59 ∧ (v0 = 59 → Q (some (0, 1)) φ x) ∧ (¬ v0 = 59 → hi v0 ∧ hi 60 ∧ (v0 = 60 → Q (some (0, 1)) φ x) ∧ (¬ v0 = 60 → hi v0 ∧ hi 61 ∧ (v0 = 61 → Q (some (0, 1)) φ x) ∧ (¬ v0 = 61 → hi v0 ∧ hi 62 ∧ (v0 = 62 → Q (some (0, 1)) φ x) ∧ (¬ v0 = 62 → hi v0 ∧ hi 40 ∧ (v0 = 40 → Q (some (0, 1)) φ x) ∧ (¬ v0 = 40 → hi v0 ∧ hi 41 ∧ (¬ v0 = 41 → Q (some (0, 0)) φ x) ∧ (¬ (¬ v0 = 41) → Q (some (0, 1)) φ x))))))) :
    hw sc d 35 0 [(0, (0, v0))] [] φ x Q := by
  refine hw_ld (b := 0) (e := 0) (by decide +kernel) rfl ?_
  refine hw_k (c := 59) (b := 1) (e := 2) (by decide +kernel) ?_
  obtain ⟨hz1, hy1, ht1, hf1⟩ := H
  refine hw_if2 (a0 := 0) (b := 0) (e := 36) (by decide +kernel) hz1 hy1 (fun q => ?_) (fun q => ?_)
  · have H := ht1 q
    refine hw_k (c := 1) (b := 0) (e := 1) (by decide +kernel) ?_
    refine hw_goto (a0 := 0) (b := 0) (e := 41) (by decide +kernel) ?_
    exact hw_ret (a0 := 0) (e := 1) (by decide +kernel) (Or.inr ⟨rfl, by decide⟩) H
  · have H := hf1 q
    refine hw_ld (b := 0) (e := 0) (by decide +kernel) rfl ?_
    refine hw_k (c := 60) (b := 1) (e := 2) (by decide +kernel) ?_
    obtain ⟨hz3, hy3, ht3, hf3⟩ := H
    refine hw_if2 (a0 := 0) (b := 0) (e := 36) (by decide +kernel) hz3 hy3 (fun q => ?_) (fun q => ?_)
    · have H := ht3 q
      refine hw_k (c := 1) (b := 0) (e := 1) (by decide +kernel) ?_
      refine hw_goto (a0 := 0) (b := 0) (e := 41) (by decide +kernel) ?_
      exact hw_ret (a0 := 0) (e := 1) (by decide +kernel) (Or.inr ⟨rfl, by decide⟩) H
    · have H := hf3 q
      refine hw_ld (b := 0) (e := 0) (by decide +kernel) rfl ?_
      refine hw_k (c := 61) (b := 1) (e := 2) (by decide +kernel) ?_
      obtain ⟨hz5, hy5, ht5, hf5⟩ := H
      refine hw_if2 (a0 := 0) (b := 0) (e := 36) (by decide +kernel) hz5 hy5 (fun q => ?_) (fun q => ?_)
      · have H := ht5 q
        refine hw_k (c := 1) (b := 0) (e := 1) (by decide +kernel) ?_
        refine hw_goto (a0 := 0) (b := 0) (e := 41) (by decide +kernel) ?_
        exact hw_ret (a0 := 0) (e := 1) (by decide +kernel) (Or.inr ⟨rfl, by decide⟩) H
      · have H := hf5 q
        refine hw_ld (b := 0) (e := 0) (by decide +kernel) rfl ?_
        refine hw_k (c := 62) (b := 1) (e := 2) (by decide +kernel) ?_
        obtain ⟨hz7, hy7, ht7, hf7⟩ := H
        refine hw_if2 (a0 := 0) (b := 0) (e := 36) (by decide +kernel) hz7 hy7 (fun q => ?_) (fun q => ?_)
        · have H := ht7 q
          refine hw_k (c := 1) (b := 0) (e := 1) (by decide +kernel) ?_
          refine hw_goto (a0 := 0) (b := 0) (e := 41) (by decide +kernel) ?_
          exact hw_ret (a0 := 0) (e := 1) (by decide +kernel) (Or.inr ⟨rfl, by decide⟩) H
        · have H := hf7 q
          refine hw_ld (b := 0) (e := 0) (by decide +kernel) rfl ?_
          refine hw_k (c := 40) (b := 1) (e := 2) (by decide +kernel) ?_
          obtain ⟨hz9, hy9, ht9, hf9⟩ := H
          refine hw_if2 (a0 := 0) (b := 0) (e := 36) (by decide +kernel) hz9 hy9 (fun q => ?_) (fun q => ?_)
          · have H := ht9 q
            refine hw_k (c := 1) (b := 0) (e := 1) (by decide +kernel) ?_
            refine hw_goto (a0 := 0) (b := 0) (e := 41) (by decide +kernel) ?_
            exact hw_ret (a0 := 0) (e := 1) (by decide +kernel) (Or.inr ⟨rfl, by decide⟩) H
          · have H := hf9 q
            refine hw_ld (b := 0) (e := 0) (by decide +kernel) rfl ?_
            refine hw_k (c := 41) (b := 1) (e := 2) (by decide +kernel) ?_
            obtain ⟨hz11, hy11, ht11, hf11⟩ := H
            refine hw_if2 (a0 := 0) (b := 1) (e := 40) (by decide +kernel) hz11 hy11 (fun q => ?_) (fun q => ?_)
            · have H := ht11 q
              refine hw_k (c := 0) (b := 0) (e := 1) (by decide +kernel) ?_
              exact hw_ret (a0 := 0) (e := 1) (by decide +kernel) (Or.inr ⟨rfl, by decide⟩) H
            · have H := hf11 q
              refine hw_k (c := 1) (b := 0) (e := 1) (by decide +kernel) ?_
              refine hw_goto (a0 := 0) (b := 0) (e := 41) (by decide +kernel) ?_
              exact hw_ret (a0 := 0) (e := 1) (by decide +kernel) (Or.inr ⟨rfl, by decide⟩) H
theorem sf_35 {sc : List Int} {d : Nat} {φ : hf_F} {x : Nat} {Q : Option jm_V → hf_F → Nat → Prop} {v0 : Int} (hI : Inv φ) (h0a : (-128 : Int) ≤ v0) (h0b : v0 ≤ 127) (hQ : ∀ (r : Int), 0 ≤ r ∧ r ≤ 1 → F_Reader_isSign φ v0 = r → Q (some (0, r)) φ x) : hw sc d 35 0 [(0, (0, v0))] [] φ x Q := by
  apply sf_35_v
  have e0 : F_Reader_isSign φ v0 = _ := rfl
  refine ⟨by unfold hi; omega, by unfold hi; omega, fun q1 => ?_, fun q1 => ?_⟩
  · skip
    have e1a := e0.trans (if_pos q1)
    exact hQ 1 ⟨by omega, by omega⟩ e1a
  · skip
    have e1b := e0.trans (if_neg q1)
    refine ⟨by unfold hi; omega, by unfold hi; omega, fun q3 => ?_, fun q3 => ?_⟩
    · skip
      have e3a := e1b.trans (if_pos q3)
      exact hQ 1 ⟨by omega, by omega⟩ e3a
    · skip
      have e3b := e1b.trans (if_neg q3)
      refine ⟨by unfold hi; omega, by unfold hi; omega, fun q5 => ?_, fun q5 => ?_⟩
      · skip
        have e5a := e3b.trans (if_pos q5)
        exact hQ 1 ⟨by omega, by omega⟩ e5a
      · skip
        have e5b := e3b.trans (if_neg q5)
        refine ⟨by unfold hi; omega, by unfold hi; omega, fun q7 => ?_, fun q7 => ?_⟩
        · skip
          have e7a := e5b.trans (if_pos q7)
          exact hQ 1 ⟨by omega, by omega⟩ e7a
        · skip
          have e7b := e5b.trans (if_neg q7)
          refine ⟨by unfold hi; omega, by unfold hi; omega, fun q9 => ?_, fun q9 => ?_⟩
          · skip
            have e9a := e7b.trans (if_pos q9)
            exact hQ 1 ⟨by omega, by omega⟩ e9a
          · skip
            have e9b := e7b.trans (if_neg q9)
            refine ⟨by unfold hi; omega, by unfold hi; omega, fun q11 => ?_, fun q11 => ?_⟩
            · skip
              have e11a := e9b.trans (if_pos q11)
              exact hQ 0 ⟨by omega, by omega⟩ e11a
            · skip
              have e11b := e9b.trans (if_neg q11)
              exact hQ 1 ⟨by omega, by omega⟩ e11b
theorem sf_30_v {sc : List Int} {d : Nat} {φ : hf_F} {x : Nat} {Q : Option jm_V → hf_F → Nat → Prop} {v0 : Int}
    (H : hi v0 ∧ hi 32 ∧ (v0 = 32 → Q (some (0, 1)) φ x) ∧ (¬ v0 = 32 → hi v0 ∧ hi 10 ∧ (¬ v0 = 10 → Q (some (0, 0)) φ x) ∧ (¬ (¬ v0 = 10) → Q (some (0, 1)) φ x))) :
    hw sc d 30 0 [(0, (0, v0))] [] φ x Q := by
  refine hw_ld (b := 0) (e := 0) (by decide +kernel) rfl ?_
  refine hw_k (c := 32) (b := 1) (e := 2) (by decide +kernel) ?_
  obtain ⟨hz1, hy1, ht1, hf1⟩ := H
  refine hw_if2 (a0 := 0) (b := 0) (e := 12) (by decide +kernel) hz1 hy1 (fun q => ?_) (fun q => ?_)
  · have H := ht1 q
    refine hw_k (c := 1) (b := 0) (e := 1) (by decide +kernel) ?_
    refine hw_goto (a0 := 0) (b := 0) (e := 17) (by decide +kernel) ?_
    exact hw_ret (a0 := 0) (e := 1) (by decide +kernel) (Or.inr ⟨rfl, by decide⟩) H
  · have H := hf1 q
    refine hw_ld (b := 0) (e := 0) (by decide +kernel) rfl ?_
    refine hw_k (c := 10) (b := 1) (e := 2) (by decide +kernel) ?_
    obtain ⟨hz3, hy3, ht3, hf3⟩ := H
    refine hw_if2 (a0 := 0) (b := 1) (e := 16) (by decide +kernel) hz3 hy3 (fun q => ?_) (fun q => ?_)
    · have H := ht3 q
      refine hw_k (c := 0) (b := 0) (e := 1) (by decide +kernel) ?_
      exact hw_ret (a0 := 0) (e := 1) (by decide +kernel) (Or.inr ⟨rfl, by decide⟩) H
    · have H := hf3 q
      refine hw_k (c := 1) (b := 0) (e := 1) (by decide +kernel) ?_
      refine hw_goto (a0 := 0) (b := 0) (e := 17) (by decide +kernel) ?_
      exact hw_ret (a0 := 0) (e := 1) (by decide +kernel) (Or.inr ⟨rfl, by decide⟩) H
theorem sf_30 {sc : List Int} {d : Nat} {φ : hf_F} {x : Nat} {Q : Option jm_V → hf_F → Nat → Prop} {v0 : Int} (hI : Inv φ) (h0a : (-128 : Int) ≤ v0) (h0b : v0 ≤ 127) (hQ : ∀ (r : Int), 0 ≤ r ∧ r ≤ 1 → F_Reader_isBlank φ v0 = r → Q (some (0, r)) φ x) : hw sc d 30 0 [(0, (0, v0))] [] φ x Q := by
  apply sf_30_v
  have e0 : F_Reader_isBlank φ v0 = _ := rfl
  refine ⟨by unfold hi; omega, by unfold hi; omega, fun q1 => ?_, fun q1 => ?_⟩
  · skip
    have e1a := e0.trans (if_pos q1)
    exact hQ 1 ⟨by omega, by omega⟩ e1a
  · skip
    have e1b := e0.trans (if_neg q1)
    refine ⟨by unfold hi; omega, by unfold hi; omega, fun q3 => ?_, fun q3 => ?_⟩
    · skip
      have e3a := e1b.trans (if_pos q3)
      exact hQ 0 ⟨by omega, by omega⟩ e3a
    · skip
      have e3b := e1b.trans (if_neg q3)
      exact hQ 1 ⟨by omega, by omega⟩ e3b
theorem sf_29_1_v0 {sc : List Int} {d : Nat} {φ : hf_F} {x : Nat} {Q : Option jm_V → hf_F → Nat → Prop} {L : jm_L} (g0 : jm_get L 0 = some (2, 1))
    (H : hi (φ 1 4) ∧ hi (φ 1 2) ∧ ((φ 1 2) ≤ (φ 1 4) → hi (φ 1 2) ∧ hi (φ 1 3) ∧ ((φ 1 2) ≤ (φ 1 3) → hi (φ 1 4) ∧ hi (φ 1 2) ∧ ((φ 1 4) < (φ 1 2) → 0 ≤ (φ 1 4) ∧ (φ 1 4) < 940 ∧ (hw sc (d + 1) 31 0 [(0, (0, φ 2 ((φ 1 4).toNat)))] [] (hf_up φ 1 6 (φ 1 4)) x (fun r ψ5 y5 => y5 = x ∧ (hf_up φ 1 6 (φ 1 4)) = ψ5 ∧ (∃ z5 : Int, r = some (0, z5) ∧ (hi z5 ∧ (¬ z5 = 0 → hw sc (d + 1) 33 0 [(0, (2, 1))] [] (hf_up φ 1 6 (φ 1 4)) x (fun r ψ7 y7 => y7 = x ∧ (r = none ∧ (Q none ψ7 x)))) ∧ (¬ (¬ z5 = 0) → 0 ≤ (φ 1 4) ∧ (φ 1 4) < 940 ∧ (hw sc (d + 1) 32 0 [(0, (0, φ 2 ((φ 1 4).toNat)))] [] (hf_up φ 1 6 (φ 1 4)) x (fun r ψ10 y10 => y10 = x ∧ (hf_up φ 1 6 (φ 1 4)) = ψ10 ∧ (∃ z10 : Int, r = some (0, z10) ∧ (hi z10 ∧ (z10 = 0 → 0 ≤ (φ 1 4) ∧ (φ 1 4) < 940 ∧ (hw sc (d + 1) 35 0 [(0, (0, φ 2 ((φ 1 4).toNat)))] [] (hf_up (hf_up φ 1 6 (φ 1 4)) 1 7 (φ 2 ((φ 1 4).toNat))) x (fun r ψ13 y13 => y13 = x ∧ (hf_up (hf_up φ 1 6 (φ 1 4)) 1 7 (φ 2 ((φ 1 4).toNat))) = ψ13 ∧ (∃ z13 : Int, r = some (0, z13) ∧ (hi z13 ∧ (z13 = 0 → Q none (hf_up (hf_up (hf_up (hf_up φ 1 6 (φ 1 4)) 1 7 (φ 2 ((φ 1 4).toNat))) 1 5 1) 1 4 ((φ 1 4) + 1)) x) ∧ (¬ z13 = 0 → Q none (hf_up (hf_up (hf_up (hf_up φ 1 6 (φ 1 4)) 1 7 (φ 2 ((φ 1 4).toNat))) 1 5 5) 1 4 ((φ 1 4) + 1)) x)))))) ∧ (¬ z10 = 0 → hw sc (d + 1) 33 0 [(0, (2, 1))] [] (hf_up φ 1 6 (φ 1 4)) x (fun r ψ17 y17 => y17 = x ∧ (r = none ∧ (Q none ψ17 x)))))))))))))) ∧ (¬ (φ 1 4) < (φ 1 2) → Q none (hf_up (hf_up φ 1 6 (φ 1 4)) 1 5 0) x)) ∧ (¬ (φ 1 2) ≤ (φ 1 3) → hi (φ 1 4) ∧ hi (φ 1 3) ∧ ((φ 1 4) < (φ 1 3) → hi (φ 1 4) ∧ hi (φ 1 2) ∧ ((φ 1 4) < (φ 1 2) → 0 ≤ (φ 1 4) ∧ (φ 1 4) < 940 ∧ (hw sc (d + 1) 31 0 [(0, (0, φ 2 ((φ 1 4).toNat)))] [] (hf_up φ 1 6 (φ 1 4)) x (fun r ψ23 y23 => y23 = x ∧ (hf_up φ 1 6 (φ 1 4)) = ψ23 ∧ (∃ z23 : Int, r = some (0, z23) ∧ (hi z23 ∧ (¬ z23 = 0 → hw sc (d + 1) 33 0 [(0, (2, 1))] [] (hf_up φ 1 6 (φ 1 4)) x (fun r ψ25 y25 => y25 = x ∧ (r = none ∧ (Q none ψ25 x)))) ∧ (¬ (¬ z23 = 0) → 0 ≤ (φ 1 4) ∧ (φ 1 4) < 940 ∧ (hw sc (d + 1) 32 0 [(0, (0, φ 2 ((φ 1 4).toNat)))] [] (hf_up φ 1 6 (φ 1 4)) x (fun r ψ28 y28 => y28 = x ∧ (hf_up φ 1 6 (φ 1 4)) = ψ28 ∧ (∃ z28 : Int, r = some (0, z28) ∧ (hi z28 ∧ (z28 = 0 → 0 ≤ (φ 1 4) ∧ (φ 1 4) < 940 ∧ (hw sc (d + 1) 35 0 [(0, (0, φ 2 ((φ 1 4).toNat)))] [] (hf_up (hf_up φ 1 6 (φ 1 4)) 1 7 (φ 2 ((φ 1 4).toNat))) x (fun r ψ31 y31 => y31 = x ∧ (hf_up (hf_up φ 1 6 (φ 1 4)) 1 7 (φ 2 ((φ 1 4).toNat))) = ψ31 ∧ (∃ z31 : Int, r = some (0, z31) ∧ (hi z31 ∧ (z31 = 0 → Q none (hf_up (hf_up (hf_up (hf_up φ 1 6 (φ 1 4)) 1 7 (φ 2 ((φ 1 4).toNat))) 1 5 1) 1 4 ((φ 1 4) + 1)) x) ∧ (¬ z31 = 0 → Q none (hf_up (hf_up (hf_up (hf_up φ 1 6 (φ 1 4)) 1 7 (φ 2 ((φ 1 4).toNat))) 1 5 5) 1 4 ((φ 1 4) + 1)) x)))))) ∧ (¬ z28 = 0 → hw sc (d + 1) 33 0 [(0, (2, 1))] [] (hf_up φ 1 6 (φ 1 4)) x (fun r ψ35 y35 => y35 = x ∧ (r = none ∧ (Q none ψ35 x)))))))))))))) ∧ (¬ (φ 1 4) < (φ 1 2) → Q none (hf_up (hf_up φ 1 6 (φ 1 4)) 1 5 0) x)) ∧ (¬ (φ 1 4) < (φ 1 3) → Q none (hf_up (hf_up (hf_up φ 1 6 (φ 1 4)) 1 6 (φ 1 3)) 1 5 1) x))) ∧ (¬ (φ 1 2) ≤ (φ 1 4) → 0 ≤ (φ 1 4) ∧ (φ 1 4) < 940 ∧ (hw sc (d + 1) 30 0 [(0, (0, φ 2 ((φ 1 4).toNat)))] [] φ x (fun r ψ40 y40 => y40 = x ∧ φ = ψ40 ∧ (∃ z40 : Int, r = some (0, z40) ∧ (hi z40 ∧ (z40 = 0 → hi (φ 1 2) ∧ hi (φ 1 3) ∧ ((φ 1 2) ≤ (φ 1 3) → hi (φ 1 4) ∧ hi (φ 1 2) ∧ ((φ 1 4) < (φ 1 2) → 0 ≤ (φ 1 4) ∧ (φ 1 4) < 940 ∧ (hw sc (d + 1) 31 0 [(0, (0, φ 2 ((φ 1 4).toNat)))] [] (hf_up φ 1 6 (φ 1 4)) x (fun r ψ45 y45 => y45 = x ∧ (hf_up φ 1 6 (φ 1 4)) = ψ45 ∧ (∃ z45 : Int, r = some (0, z45) ∧ (hi z45 ∧ (¬ z45 = 0 → hw sc (d + 1) 33 0 [(0, (2, 1))] [] (hf_up φ 1 6 (φ 1 4)) x (fun r ψ47 y47 => y47 = x ∧ (r = none ∧ (Q none ψ47 x)))) ∧ (¬ (¬ z45 = 0) → 0 ≤ (φ 1 4) ∧ (φ 1 4) < 940 ∧ (hw sc (d + 1) 32 0 [(0, (0, φ 2 ((φ 1 4).toNat)))] [] (hf_up φ 1 6 (φ 1 4)) x (fun r ψ50 y50 => y50 = x ∧ (hf_up φ 1 6 (φ 1 4)) = ψ50 ∧ (∃ z50 : Int, r = some (0, z50) ∧ (hi z50 ∧ (z50 = 0 → 0 ≤ (φ 1 4) ∧ (φ 1 4) < 940 ∧ (hw sc (d + 1) 35 0 [(0, (0, φ 2 ((φ 1 4).toNat)))] [] (hf_up (hf_up φ 1 6 (φ 1 4)) 1 7 (φ 2 ((φ 1 4).toNat))) x (fun r ψ53 y53 => y53 = x ∧ (hf_up (hf_up φ 1 6 (φ 1 4)) 1 7 (φ 2 ((φ 1 4).toNat))) = ψ53 ∧ (∃ z53 : Int, r = some (0, z53) ∧ (hi z53 ∧ (z53 = 0 → Q none (hf_up (hf_up (hf_up (hf_up φ 1 6 (φ 1 4)) 1 7 (φ 2 ((φ 1 4).toNat))) 1 5 1) 1 4 ((φ 1 4) + 1)) x) ∧ (¬ z53 = 0 → Q none (hf_up (hf_up (hf_up (hf_up φ 1 6 (φ 1 4)) 1 7 (φ 2 ((φ 1 4).toNat))) 1 5 5) 1 4 ((φ 1 4) + 1)) x)))))) ∧ (¬ z50 = 0 → hw sc (d + 1) 33 0 [(0, (2, 1))] [] (hf_up φ 1 6 (φ 1 4)) x (fun r ψ57 y57 => y57 = x ∧ (r = none ∧ (Q none ψ57 x)))))))))))))) ∧ (¬ (φ 1 4) < (φ 1 2) → Q none (hf_up (hf_up φ 1 6 (φ 1 4)) 1 5 0) x)) ∧ (¬ (φ 1 2) ≤ (φ 1 3) → hi (φ 1 4) ∧ hi (φ 1 3) ∧ ((φ 1 4) < (φ 1 3) → hi (φ 1 4) ∧ hi (φ 1 2) ∧ ((φ 1 4) < (φ 1 2) → 0 ≤ (φ 1 4) ∧ (φ 1 4) < 940 ∧ (hw sc (d + 1) 31 0 [(0, (0, φ 2 ((φ 1 4).toNat)))] [] (hf_up φ 1 6 (φ 1 4)) x (fun r ψ63 y63 => y63 = x ∧ (hf_up φ 1 6 (φ 1 4)) = ψ63 ∧ (∃ z63 : Int, r = some (0, z63) ∧ (hi z63 ∧ (¬ z63 = 0 → hw sc (d + 1) 33 0 [(0, (2, 1))] [] (hf_up φ 1 6 (φ 1 4)) x (fun r ψ65 y65 => y65 = x ∧ (r = none ∧ (Q none ψ65 x)))) ∧ (¬ (¬ z63 = 0) → 0 ≤ (φ 1 4) ∧ (φ 1 4) < 940 ∧ (hw sc (d + 1) 32 0 [(0, (0, φ 2 ((φ 1 4).toNat)))] [] (hf_up φ 1 6 (φ 1 4)) x (fun r ψ68 y68 => y68 = x ∧ (hf_up φ 1 6 (φ 1 4)) = ψ68 ∧ (∃ z68 : Int, r = some (0, z68) ∧ (hi z68 ∧ (z68 = 0 → 0 ≤ (φ 1 4) ∧ (φ 1 4) < 940 ∧ (hw sc (d + 1) 35 0 [(0, (0, φ 2 ((φ 1 4).toNat)))] [] (hf_up (hf_up φ 1 6 (φ 1 4)) 1 7 (φ 2 ((φ 1 4).toNat))) x (fun r ψ71 y71 => y71 = x ∧ (hf_up (hf_up φ 1 6 (φ 1 4)) 1 7 (φ 2 ((φ 1 4).toNat))) = ψ71 ∧ (∃ z71 : Int, r = some (0, z71) ∧ (hi z71 ∧ (z71 = 0 → Q none (hf_up (hf_up (hf_up (hf_up φ 1 6 (φ 1 4)) 1 7 (φ 2 ((φ 1 4).toNat))) 1 5 1) 1 4 ((φ 1 4) + 1)) x) ∧ (¬ z71 = 0 → Q none (hf_up (hf_up (hf_up (hf_up φ 1 6 (φ 1 4)) 1 7 (φ 2 ((φ 1 4).toNat))) 1 5 5) 1 4 ((φ 1 4) + 1)) x)))))) ∧ (¬ z68 = 0 → hw sc (d + 1) 33 0 [(0, (2, 1))] [] (hf_up φ 1 6 (φ 1 4)) x (fun r ψ75 y75 => y75 = x ∧ (r = none ∧ (Q none ψ75 x)))))))))))))) ∧ (¬ (φ 1 4) < (φ 1 2) → Q none (hf_up (hf_up φ 1 6 (φ 1 4)) 1 5 0) x)) ∧ (¬ (φ 1 4) < (φ 1 3) → Q none (hf_up (hf_up (hf_up φ 1 6 (φ 1 4)) 1 6 (φ 1 3)) 1 5 1) x))) ∧ (¬ z40 = 0 → hw sc (d + 2) 29 0 L [] (hf_up φ 1 4 ((φ 1 4) + 1)) x Q))))))) :
    hw sc (d + 2) 29 0 L [] φ x Q := by
  refine hw_ald (b := 0) (e := 0) (by decide +kernel) g0 (by decide) ?_
  refine hr_gi (w := φ 1 4) (b := 1) (e := 4) 1 rfl (by decide +kernel) rfl ?_
  refine hw_ald (b := 0) (e := 0) (by decide +kernel) g0 (by decide) ?_
  refine hr_gi (w := φ 1 2) (b := 1) (e := 2) 1 rfl (by decide +kernel) rfl ?_
  obtain ⟨hz1, hy1, ht1, hf1⟩ := H
  refine hw_if2 (a0 := 0) (b := 3) (e := 39) (by decide +kernel) hz1 hy1 (fun q => ?_) (fun q => ?_)
  · have H := ht1 q
    refine hw_ald (b := 0) (e := 0) (by decide +kernel) g0 (by decide) ?_
    refine hw_ald (b := 0) (e := 0) (by decide +kernel) g0 (by decide) ?_
    refine hr_gi (w := φ 1 4) (b := 1) (e := 4) 1 rfl (by decide +kernel) rfl ?_
    refine hr_pi (b := 1) (e := 6) 1 rfl (by decide +kernel) ?_
    refine hw_ald (b := 0) (e := 0) (by decide +kernel) g0 (by decide) ?_
    refine hr_gi (w := φ 1 2) (b := 1) (e := 2) 1 rfl (by decide +kernel) (hf_up_ne (fun q => absurd q.2 (by decide))) ?_
    refine hw_ald (b := 0) (e := 0) (by decide +kernel) g0 (by decide) ?_
    refine hr_gi (w := φ 1 3) (b := 1) (e := 3) 1 rfl (by decide +kernel) (hf_up_ne (fun q => absurd q.2 (by decide))) ?_
    obtain ⟨hz2, hy2, ht2, hf2⟩ := H
    refine hw_if2 (a0 := 0) (b := 5) (e := 85) (by decide +kernel) hz2 hy2 (fun q => ?_) (fun q => ?_)
    · have H := ht2 q
      refine hw_ald (b := 0) (e := 0) (by decide +kernel) g0 (by decide) ?_
      refine hr_gi (w := φ 1 4) (b := 1) (e := 6) 1 rfl (by decide +kernel) hf_up_eq ?_
      refine hw_ald (b := 0) (e := 0) (by decide +kernel) g0 (by decide) ?_
      refine hr_gi (w := φ 1 2) (b := 1) (e := 2) 1 rfl (by decide +kernel) (hf_up_ne (fun q => absurd q.2 (by decide))) ?_
      obtain ⟨hz3, hy3, ht3, hf3⟩ := H
      refine hw_if2 (a0 := 0) (b := 2) (e := 104) (by decide +kernel) hz3 hy3 (fun q => ?_) (fun q => ?_)
      · have H := ht3 q
        refine hw_ald (b := 0) (e := 0) (by decide +kernel) g0 (by decide) ?_
        refine hr_gr (w := 2) (b := 1) (e := 0) 1 rfl (by decide +kernel) ?_
        refine hw_ald (b := 0) (e := 0) (by decide +kernel) g0 (by decide) ?_
        refine hr_gi (w := φ 1 4) (b := 1) (e := 6) 1 rfl (by decide +kernel) hf_up_eq ?_
        obtain ⟨hl4, hu4, H⟩ := H
        refine hr_al (b := 1) (a0 := 0) (e := 0) (n := 940) (w := φ 2 ((φ 1 4).toNat)) 2 rfl (by decide +kernel) (by decide) hl4 hu4 (hf_up_ne (fun q => absurd q.1 (by decide))) ?_
        refine hr_calls (b := 31) (e := 1) (nl := 1) (As := [(0, φ 2 ((φ 1 4).toNat))]) (R := []) (by decide +kernel) rfl rfl (Nat.le_of_ble_eq_true rfl) (Nat.le_of_ble_eq_true rfl) ?_
        refine hw_mono H ?_
        rintro r ψ5 y5 ⟨hyx, hψx, z5, hr, H⟩
        subst hyx
        subst hψx
        subst hr
        refine ⟨hne0, ?_⟩
        show hw sc (d + 2) 29 116 L [(0, z5)] (hf_up φ 1 6 (φ 1 4)) y5 Q
        obtain ⟨hz6, ht6, hf6⟩ := H
        refine hw_if (a0 := 0) (b := 1) (e := 134) (by decide +kernel) hz6 (fun q => ?_) (fun q => ?_)
        · have H := ht6 q
          refine hw_ald (b := 0) (e := 0) (by decide +kernel) g0 (by decide) ?_
          refine hr_call (a0 := 11) (b := 33) (e := 1) (nl := 6) (As := []) (R := []) 1 rfl (by decide +kernel) rfl rfl (Nat.le_of_ble_eq_true rfl) (Nat.le_of_ble_eq_true rfl) ?_
          refine hw_mono H ?_
          rintro r ψ7 y7 ⟨hyx, hr, H⟩
          subst hyx
          subst hr
          refine ⟨hnen, ?_⟩
          show hw sc (d + 2) 29 138 L [] ψ7 y7 Q
          refine hw_goto (a0 := 0) (b := 0) (e := 183) (by decide +kernel) ?_
          exact hw_vret (a0 := 0) (e := 0) (by decide +kernel) H
        · have H := hf6 q
          refine hw_ald (b := 0) (e := 0) (by decide +kernel) g0 (by decide) ?_
          refine hr_gr (w := 2) (b := 1) (e := 0) 1 rfl (by decide +kernel) ?_
          refine hw_ald (b := 0) (e := 0) (by decide +kernel) g0 (by decide) ?_
          refine hr_gi (w := φ 1 4) (b := 1) (e := 6) 1 rfl (by decide +kernel) hf_up_eq ?_
          obtain ⟨hl9, hu9, H⟩ := H
          refine hr_al (b := 1) (a0 := 0) (e := 0) (n := 940) (w := φ 2 ((φ 1 4).toNat)) 2 rfl (by decide +kernel) (by decide) hl9 hu9 (hf_up_ne (fun q => absurd q.1 (by decide))) ?_
          refine hr_calls (b := 32) (e := 1) (nl := 1) (As := [(0, φ 2 ((φ 1 4).toNat))]) (R := []) (by decide +kernel) rfl rfl (Nat.le_of_ble_eq_true rfl) (Nat.le_of_ble_eq_true rfl) ?_
          refine hw_mono H ?_
          rintro r ψ10 y10 ⟨hyx, hψx, z10, hr, H⟩
          subst hyx
          subst hψx
          subst hr
          refine ⟨hne0, ?_⟩
          show hw sc (d + 2) 29 131 L [(0, z10)] (hf_up φ 1 6 (φ 1 4)) y10 Q
          obtain ⟨hz11, ht11, hf11⟩ := H
          refine hw_if (a0 := 0) (b := 0) (e := 141) (by decide +kernel) hz11 (fun q => ?_) (fun q => ?_)
          · have H := ht11 q
            refine hw_ald (b := 0) (e := 0) (by decide +kernel) g0 (by decide) ?_
            refine hw_ald (b := 0) (e := 0) (by decide +kernel) g0 (by decide) ?_
            refine hr_gr (w := 2) (b := 1) (e := 0) 1 rfl (by decide +kernel) ?_
            refine hw_ald (b := 0) (e := 0) (by decide +kernel) g0 (by decide) ?_
            refine hr_gi (w := φ 1 4) (b := 1) (e := 6) 1 rfl (by decide +kernel) hf_up_eq ?_
            obtain ⟨hl12, hu12, H⟩ := H
            refine hr_al (b := 1) (a0 := 0) (e := 0) (n := 940) (w := φ 2 ((φ 1 4).toNat)) 2 rfl (by decide +kernel) (by decide) hl12 hu12 (hf_up_ne (fun q => absurd q.1 (by decide))) ?_
            refine hr_pi (b := 1) (e := 7) 1 rfl (by decide +kernel) ?_
            refine hw_ald (b := 0) (e := 0) (by decide +kernel) g0 (by decide) ?_
            refine hw_ald (b := 0) (e := 0) (by decide +kernel) g0 (by decide) ?_
            refine hr_gi (w := φ 2 ((φ 1 4).toNat)) (b := 1) (e := 7) 1 rfl (by decide +kernel) hf_up_eq ?_
            refine hr_calls (b := 35) (e := 1) (nl := 1) (As := [(0, φ 2 ((φ 1 4).toNat))]) (R := [(2, 1)]) (by decide +kernel) rfl rfl (Nat.le_of_ble_eq_true rfl) (Nat.le_of_ble_eq_true rfl) ?_
            refine hw_mono H ?_
            rintro r ψ13 y13 ⟨hyx, hψx, z13, hr, H⟩
            subst hyx
            subst hψx
            subst hr
            refine ⟨hne0, ?_⟩
            show hw sc (d + 2) 29 162 L [(0, z13), (2, 1)] (hf_up (hf_up φ 1 6 (φ 1 4)) 1 7 (φ 2 ((φ 1 4).toNat))) y13 Q
            obtain ⟨hz14, ht14, hf14⟩ := H
            refine hw_if (a0 := 0) (b := 0) (e := 169) (by decide +kernel) hz14 (fun q => ?_) (fun q => ?_)
            · have H := ht14 q
              refine hw_k (c := 1) (b := 0) (e := 1) (by decide +kernel) ?_
              refine hr_pi (b := 1) (e := 5) 1 rfl (by decide +kernel) ?_
              refine hw_ald (b := 0) (e := 0) (by decide +kernel) g0 (by decide) ?_
              refine hw_dup (a0 := 0) (e := 0) (by decide +kernel) (by decide) ?_
              refine hr_gi (w := φ 1 4) (b := 1) (e := 4) 1 rfl (by decide +kernel) ((hf_up_ne (fun q => absurd q.2 (by decide))).trans ((hf_up_ne (fun q => absurd q.2 (by decide))).trans (hf_up_ne (fun q => absurd q.2 (by decide))))) ?_
              refine hw_k (c := 1) (b := 0) (e := 1) (by decide +kernel) ?_
              refine hw_bin (w := (φ 1 4) + 1) (a0 := 0) (b := 0) (e := 0) (by decide +kernel) rfl ?_
              refine hr_pi (b := 1) (e := 4) 1 rfl (by decide +kernel) ?_
              exact hw_vret (a0 := 0) (e := 0) (by decide +kernel) H
            · have H := hf14 q
              refine hw_k (c := 5) (b := 0) (e := 1) (by decide +kernel) ?_
              refine hw_goto (a0 := 0) (b := 0) (e := 170) (by decide +kernel) ?_
              refine hr_pi (b := 1) (e := 5) 1 rfl (by decide +kernel) ?_
              refine hw_ald (b := 0) (e := 0) (by decide +kernel) g0 (by decide) ?_
              refine hw_dup (a0 := 0) (e := 0) (by decide +kernel) (by decide) ?_
              refine hr_gi (w := φ 1 4) (b := 1) (e := 4) 1 rfl (by decide +kernel) ((hf_up_ne (fun q => absurd q.2 (by decide))).trans ((hf_up_ne (fun q => absurd q.2 (by decide))).trans (hf_up_ne (fun q => absurd q.2 (by decide))))) ?_
              refine hw_k (c := 1) (b := 0) (e := 1) (by decide +kernel) ?_
              refine hw_bin (w := (φ 1 4) + 1) (a0 := 0) (b := 0) (e := 0) (by decide +kernel) rfl ?_
              refine hr_pi (b := 1) (e := 4) 1 rfl (by decide +kernel) ?_
              exact hw_vret (a0 := 0) (e := 0) (by decide +kernel) H
          · have H := hf11 q
            refine hw_ald (b := 0) (e := 0) (by decide +kernel) g0 (by decide) ?_
            refine hr_call (a0 := 11) (b := 33) (e := 1) (nl := 6) (As := []) (R := []) 1 rfl (by decide +kernel) rfl rfl (Nat.le_of_ble_eq_true rfl) (Nat.le_of_ble_eq_true rfl) ?_
            refine hw_mono H ?_
            rintro r ψ17 y17 ⟨hyx, hr, H⟩
            subst hyx
            subst hr
            refine ⟨hnen, ?_⟩
            show hw sc (d + 2) 29 138 L [] ψ17 y17 Q
            refine hw_goto (a0 := 0) (b := 0) (e := 183) (by decide +kernel) ?_
            exact hw_vret (a0 := 0) (e := 0) (by decide +kernel) H
      · have H := hf3 q
        refine hw_ald (b := 0) (e := 0) (by decide +kernel) g0 (by decide) ?_
        refine hw_k (c := 0) (b := 0) (e := 1) (by decide +kernel) ?_
        refine hr_pi (b := 1) (e := 5) 1 rfl (by decide +kernel) ?_
        refine hw_goto (a0 := 0) (b := 0) (e := 183) (by decide +kernel) ?_
        exact hw_vret (a0 := 0) (e := 0) (by decide +kernel) H
    · have H := hf2 q
      refine hw_ald (b := 0) (e := 0) (by decide +kernel) g0 (by decide) ?_
      refine hr_gi (w := φ 1 4) (b := 1) (e := 6) 1 rfl (by decide +kernel) hf_up_eq ?_
      refine hw_ald (b := 0) (e := 0) (by decide +kernel) g0 (by decide) ?_
      refine hr_gi (w := φ 1 3) (b := 1) (e := 3) 1 rfl (by decide +kernel) (hf_up_ne (fun q => absurd q.2 (by decide))) ?_
      obtain ⟨hz20, hy20, ht20, hf20⟩ := H
      refine hw_if2 (a0 := 0) (b := 2) (e := 85) (by decide +kernel) hz20 hy20 (fun q => ?_) (fun q => ?_)
      · have H := ht20 q
        refine hw_ald (b := 0) (e := 0) (by decide +kernel) g0 (by decide) ?_
        refine hr_gi (w := φ 1 4) (b := 1) (e := 6) 1 rfl (by decide +kernel) hf_up_eq ?_
        refine hw_ald (b := 0) (e := 0) (by decide +kernel) g0 (by decide) ?_
        refine hr_gi (w := φ 1 2) (b := 1) (e := 2) 1 rfl (by decide +kernel) (hf_up_ne (fun q => absurd q.2 (by decide))) ?_
        obtain ⟨hz21, hy21, ht21, hf21⟩ := H
        refine hw_if2 (a0 := 0) (b := 2) (e := 104) (by decide +kernel) hz21 hy21 (fun q => ?_) (fun q => ?_)
        · have H := ht21 q
          refine hw_ald (b := 0) (e := 0) (by decide +kernel) g0 (by decide) ?_
          refine hr_gr (w := 2) (b := 1) (e := 0) 1 rfl (by decide +kernel) ?_
          refine hw_ald (b := 0) (e := 0) (by decide +kernel) g0 (by decide) ?_
          refine hr_gi (w := φ 1 4) (b := 1) (e := 6) 1 rfl (by decide +kernel) hf_up_eq ?_
          obtain ⟨hl22, hu22, H⟩ := H
          refine hr_al (b := 1) (a0 := 0) (e := 0) (n := 940) (w := φ 2 ((φ 1 4).toNat)) 2 rfl (by decide +kernel) (by decide) hl22 hu22 (hf_up_ne (fun q => absurd q.1 (by decide))) ?_
          refine hr_calls (b := 31) (e := 1) (nl := 1) (As := [(0, φ 2 ((φ 1 4).toNat))]) (R := []) (by decide +kernel) rfl rfl (Nat.le_of_ble_eq_true rfl) (Nat.le_of_ble_eq_true rfl) ?_
          refine hw_mono H ?_
          rintro r ψ23 y23 ⟨hyx, hψx, z23, hr, H⟩
          subst hyx
          subst hψx
          subst hr
          refine ⟨hne0, ?_⟩
          show hw sc (d + 2) 29 116 L [(0, z23)] (hf_up φ 1 6 (φ 1 4)) y23 Q
          obtain ⟨hz24, ht24, hf24⟩ := H
          refine hw_if (a0 := 0) (b := 1) (e := 134) (by decide +kernel) hz24 (fun q => ?_) (fun q => ?_)
          · have H := ht24 q
            refine hw_ald (b := 0) (e := 0) (by decide +kernel) g0 (by decide) ?_
            refine hr_call (a0 := 11) (b := 33) (e := 1) (nl := 6) (As := []) (R := []) 1 rfl (by decide +kernel) rfl rfl (Nat.le_of_ble_eq_true rfl) (Nat.le_of_ble_eq_true rfl) ?_
            refine hw_mono H ?_
            rintro r ψ25 y25 ⟨hyx, hr, H⟩
            subst hyx
            subst hr
            refine ⟨hnen, ?_⟩
            show hw sc (d + 2) 29 138 L [] ψ25 y25 Q
            refine hw_goto (a0 := 0) (b := 0) (e := 183) (by decide +kernel) ?_
            exact hw_vret (a0 := 0) (e := 0) (by decide +kernel) H
          · have H := hf24 q
            refine hw_ald (b := 0) (e := 0) (by decide +kernel) g0 (by decide) ?_
            refine hr_gr (w := 2) (b := 1) (e := 0) 1 rfl (by decide +kernel) ?_
            refine hw_ald (b := 0) (e := 0) (by decide +kernel) g0 (by decide) ?_
            refine hr_gi (w := φ 1 4) (b := 1) (e := 6) 1 rfl (by decide +kernel) hf_up_eq ?_
            obtain ⟨hl27, hu27, H⟩ := H
            refine hr_al (b := 1) (a0 := 0) (e := 0) (n := 940) (w := φ 2 ((φ 1 4).toNat)) 2 rfl (by decide +kernel) (by decide) hl27 hu27 (hf_up_ne (fun q => absurd q.1 (by decide))) ?_
            refine hr_calls (b := 32) (e := 1) (nl := 1) (As := [(0, φ 2 ((φ 1 4).toNat))]) (R := []) (by decide +kernel) rfl rfl (Nat.le_of_ble_eq_true rfl) (Nat.le_of_ble_eq_true rfl) ?_
            refine hw_mono H ?_
            rintro r ψ28 y28 ⟨hyx, hψx, z28, hr, H⟩
            subst hyx
            subst hψx
            subst hr
            refine ⟨hne0, ?_⟩
            show hw sc (d + 2) 29 131 L [(0, z28)] (hf_up φ 1 6 (φ 1 4)) y28 Q
            obtain ⟨hz29, ht29, hf29⟩ := H
            refine hw_if (a0 := 0) (b := 0) (e := 141) (by decide +kernel) hz29 (fun q => ?_) (fun q => ?_)
            · have H := ht29 q
              refine hw_ald (b := 0) (e := 0) (by decide +kernel) g0 (by decide) ?_
              refine hw_ald (b := 0) (e := 0) (by decide +kernel) g0 (by decide) ?_
              refine hr_gr (w := 2) (b := 1) (e := 0) 1 rfl (by decide +kernel) ?_
              refine hw_ald (b := 0) (e := 0) (by decide +kernel) g0 (by decide) ?_
              refine hr_gi (w := φ 1 4) (b := 1) (e := 6) 1 rfl (by decide +kernel) hf_up_eq ?_
              obtain ⟨hl30, hu30, H⟩ := H
              refine hr_al (b := 1) (a0 := 0) (e := 0) (n := 940) (w := φ 2 ((φ 1 4).toNat)) 2 rfl (by decide +kernel) (by decide) hl30 hu30 (hf_up_ne (fun q => absurd q.1 (by decide))) ?_
              refine hr_pi (b := 1) (e := 7) 1 rfl (by decide +kernel) ?_
              refine hw_ald (b := 0) (e := 0) (by decide +kernel) g0 (by decide) ?_
              refine hw_ald (b := 0) (e := 0) (by decide +kernel) g0 (by decide) ?_
              refine hr_gi (w := φ 2 ((φ 1 4).toNat)) (b := 1) (e := 7) 1 rfl (by decide +kernel) hf_up_eq ?_
              refine hr_calls (b := 35) (e := 1) (nl := 1) (As := [(0, φ 2 ((φ 1 4).toNat))]) (R := [(2, 1)]) (by decide +kernel) rfl rfl (Nat.le_of_ble_eq_true rfl) (Nat.le_of_ble_eq_true rfl) ?_
              refine hw_mono H ?_
              rintro r ψ31 y31 ⟨hyx, hψx, z31, hr, H⟩
              subst hyx
              subst hψx
              subst hr
              refine ⟨hne0, ?_⟩
              show hw sc (d + 2) 29 162 L [(0, z31), (2, 1)] (hf_up (hf_up φ 1 6 (φ 1 4)) 1 7 (φ 2 ((φ 1 4).toNat))) y31 Q
              obtain ⟨hz32, ht32, hf32⟩ := H
              refine hw_if (a0 := 0) (b := 0) (e := 169) (by decide +kernel) hz32 (fun q => ?_) (fun q => ?_)
              · have H := ht32 q
                refine hw_k (c := 1) (b := 0) (e := 1) (by decide +kernel) ?_
                refine hr_pi (b := 1) (e := 5) 1 rfl (by decide +kernel) ?_
                refine hw_ald (b := 0) (e := 0) (by decide +kernel) g0 (by decide) ?_
                refine hw_dup (a0 := 0) (e := 0) (by decide +kernel) (by decide) ?_
                refine hr_gi (w := φ 1 4) (b := 1) (e := 4) 1 rfl (by decide +kernel) ((hf_up_ne (fun q => absurd q.2 (by decide))).trans ((hf_up_ne (fun q => absurd q.2 (by decide))).trans (hf_up_ne (fun q => absurd q.2 (by decide))))) ?_
                refine hw_k (c := 1) (b := 0) (e := 1) (by decide +kernel) ?_
                refine hw_bin (w := (φ 1 4) + 1) (a0 := 0) (b := 0) (e := 0) (by decide +kernel) rfl ?_
                refine hr_pi (b := 1) (e := 4) 1 rfl (by decide +kernel) ?_
                exact hw_vret (a0 := 0) (e := 0) (by decide +kernel) H
              · have H := hf32 q
                refine hw_k (c := 5) (b := 0) (e := 1) (by decide +kernel) ?_
                refine hw_goto (a0 := 0) (b := 0) (e := 170) (by decide +kernel) ?_
                refine hr_pi (b := 1) (e := 5) 1 rfl (by decide +kernel) ?_
                refine hw_ald (b := 0) (e := 0) (by decide +kernel) g0 (by decide) ?_
                refine hw_dup (a0 := 0) (e := 0) (by decide +kernel) (by decide) ?_
                refine hr_gi (w := φ 1 4) (b := 1) (e := 4) 1 rfl (by decide +kernel) ((hf_up_ne (fun q => absurd q.2 (by decide))).trans ((hf_up_ne (fun q => absurd q.2 (by decide))).trans (hf_up_ne (fun q => absurd q.2 (by decide))))) ?_
                refine hw_k (c := 1) (b := 0) (e := 1) (by decide +kernel) ?_
                refine hw_bin (w := (φ 1 4) + 1) (a0 := 0) (b := 0) (e := 0) (by decide +kernel) rfl ?_
                refine hr_pi (b := 1) (e := 4) 1 rfl (by decide +kernel) ?_
                exact hw_vret (a0 := 0) (e := 0) (by decide +kernel) H
            · have H := hf29 q
              refine hw_ald (b := 0) (e := 0) (by decide +kernel) g0 (by decide) ?_
              refine hr_call (a0 := 11) (b := 33) (e := 1) (nl := 6) (As := []) (R := []) 1 rfl (by decide +kernel) rfl rfl (Nat.le_of_ble_eq_true rfl) (Nat.le_of_ble_eq_true rfl) ?_
              refine hw_mono H ?_
              rintro r ψ35 y35 ⟨hyx, hr, H⟩
              subst hyx
              subst hr
              refine ⟨hnen, ?_⟩
              show hw sc (d + 2) 29 138 L [] ψ35 y35 Q
              refine hw_goto (a0 := 0) (b := 0) (e := 183) (by decide +kernel) ?_
              exact hw_vret (a0 := 0) (e := 0) (by decide +kernel) H
        · have H := hf21 q
          refine hw_ald (b := 0) (e := 0) (by decide +kernel) g0 (by decide) ?_
          refine hw_k (c := 0) (b := 0) (e := 1) (by decide +kernel) ?_
          refine hr_pi (b := 1) (e := 5) 1 rfl (by decide +kernel) ?_
          refine hw_goto (a0 := 0) (b := 0) (e := 183) (by decide +kernel) ?_
          exact hw_vret (a0 := 0) (e := 0) (by decide +kernel) H
      · have H := hf20 q
        refine hw_ald (b := 0) (e := 0) (by decide +kernel) g0 (by decide) ?_
        refine hw_ald (b := 0) (e := 0) (by decide +kernel) g0 (by decide) ?_
        refine hr_gi (w := φ 1 3) (b := 1) (e := 3) 1 rfl (by decide +kernel) (hf_up_ne (fun q => absurd q.2 (by decide))) ?_
        refine hr_pi (b := 1) (e := 6) 1 rfl (by decide +kernel) ?_
        refine hw_ald (b := 0) (e := 0) (by decide +kernel) g0 (by decide) ?_
        refine hw_k (c := 1) (b := 0) (e := 1) (by decide +kernel) ?_
        refine hr_pi (b := 1) (e := 5) 1 rfl (by decide +kernel) ?_
        refine hw_goto (a0 := 0) (b := 0) (e := 183) (by decide +kernel) ?_
        exact hw_vret (a0 := 0) (e := 0) (by decide +kernel) H
  · have H := hf1 q
    refine hw_ald (b := 0) (e := 0) (by decide +kernel) g0 (by decide) ?_
    refine hr_gr (w := 2) (b := 1) (e := 0) 1 rfl (by decide +kernel) ?_
    refine hw_ald (b := 0) (e := 0) (by decide +kernel) g0 (by decide) ?_
    refine hr_gi (w := φ 1 4) (b := 1) (e := 4) 1 rfl (by decide +kernel) rfl ?_
    obtain ⟨hl39, hu39, H⟩ := H
    refine hr_al (b := 1) (a0 := 0) (e := 0) (n := 940) (w := φ 2 ((φ 1 4).toNat)) 2 rfl (by decide +kernel) (by decide) hl39 hu39 rfl ?_
    refine hr_calls (b := 30) (e := 1) (nl := 1) (As := [(0, φ 2 ((φ 1 4).toNat))]) (R := []) (by decide +kernel) rfl rfl (Nat.le_of_ble_eq_true rfl) (Nat.le_of_ble_eq_true rfl) ?_
    refine hw_mono H ?_
    rintro r ψ40 y40 ⟨hyx, hψx, z40, hr, H⟩
    subst hyx
    subst hψx
    subst hr
    refine ⟨hne0, ?_⟩
    show hw sc (d + 2) 29 23 L [(0, z40)] φ y40 Q
    obtain ⟨hz41, ht41, hf41⟩ := H
    refine hw_if (a0 := 0) (b := 0) (e := 39) (by decide +kernel) hz41 (fun q => ?_) (fun q => ?_)
    · have H := ht41 q
      refine hw_ald (b := 0) (e := 0) (by decide +kernel) g0 (by decide) ?_
      refine hw_ald (b := 0) (e := 0) (by decide +kernel) g0 (by decide) ?_
      refine hr_gi (w := φ 1 4) (b := 1) (e := 4) 1 rfl (by decide +kernel) rfl ?_
      refine hr_pi (b := 1) (e := 6) 1 rfl (by decide +kernel) ?_
      refine hw_ald (b := 0) (e := 0) (by decide +kernel) g0 (by decide) ?_
      refine hr_gi (w := φ 1 2) (b := 1) (e := 2) 1 rfl (by decide +kernel) (hf_up_ne (fun q => absurd q.2 (by decide))) ?_
      refine hw_ald (b := 0) (e := 0) (by decide +kernel) g0 (by decide) ?_
      refine hr_gi (w := φ 1 3) (b := 1) (e := 3) 1 rfl (by decide +kernel) (hf_up_ne (fun q => absurd q.2 (by decide))) ?_
      obtain ⟨hz42, hy42, ht42, hf42⟩ := H
      refine hw_if2 (a0 := 0) (b := 5) (e := 85) (by decide +kernel) hz42 hy42 (fun q => ?_) (fun q => ?_)
      · have H := ht42 q
        refine hw_ald (b := 0) (e := 0) (by decide +kernel) g0 (by decide) ?_
        refine hr_gi (w := φ 1 4) (b := 1) (e := 6) 1 rfl (by decide +kernel) hf_up_eq ?_
        refine hw_ald (b := 0) (e := 0) (by decide +kernel) g0 (by decide) ?_
        refine hr_gi (w := φ 1 2) (b := 1) (e := 2) 1 rfl (by decide +kernel) (hf_up_ne (fun q => absurd q.2 (by decide))) ?_
        obtain ⟨hz43, hy43, ht43, hf43⟩ := H
        refine hw_if2 (a0 := 0) (b := 2) (e := 104) (by decide +kernel) hz43 hy43 (fun q => ?_) (fun q => ?_)
        · have H := ht43 q
          refine hw_ald (b := 0) (e := 0) (by decide +kernel) g0 (by decide) ?_
          refine hr_gr (w := 2) (b := 1) (e := 0) 1 rfl (by decide +kernel) ?_
          refine hw_ald (b := 0) (e := 0) (by decide +kernel) g0 (by decide) ?_
          refine hr_gi (w := φ 1 4) (b := 1) (e := 6) 1 rfl (by decide +kernel) hf_up_eq ?_
          obtain ⟨hl44, hu44, H⟩ := H
          refine hr_al (b := 1) (a0 := 0) (e := 0) (n := 940) (w := φ 2 ((φ 1 4).toNat)) 2 rfl (by decide +kernel) (by decide) hl44 hu44 (hf_up_ne (fun q => absurd q.1 (by decide))) ?_
          refine hr_calls (b := 31) (e := 1) (nl := 1) (As := [(0, φ 2 ((φ 1 4).toNat))]) (R := []) (by decide +kernel) rfl rfl (Nat.le_of_ble_eq_true rfl) (Nat.le_of_ble_eq_true rfl) ?_
          refine hw_mono H ?_
          rintro r ψ45 y45 ⟨hyx, hψx, z45, hr, H⟩
          subst hyx
          subst hψx
          subst hr
          refine ⟨hne0, ?_⟩
          show hw sc (d + 2) 29 116 L [(0, z45)] (hf_up φ 1 6 (φ 1 4)) y45 Q
          obtain ⟨hz46, ht46, hf46⟩ := H
          refine hw_if (a0 := 0) (b := 1) (e := 134) (by decide +kernel) hz46 (fun q => ?_) (fun q => ?_)
          · have H := ht46 q
            refine hw_ald (b := 0) (e := 0) (by decide +kernel) g0 (by decide) ?_
            refine hr_call (a0 := 11) (b := 33) (e := 1) (nl := 6) (As := []) (R := []) 1 rfl (by decide +kernel) rfl rfl (Nat.le_of_ble_eq_true rfl) (Nat.le_of_ble_eq_true rfl) ?_
            refine hw_mono H ?_
            rintro r ψ47 y47 ⟨hyx, hr, H⟩
            subst hyx
            subst hr
            refine ⟨hnen, ?_⟩
            show hw sc (d + 2) 29 138 L [] ψ47 y47 Q
            refine hw_goto (a0 := 0) (b := 0) (e := 183) (by decide +kernel) ?_
            exact hw_vret (a0 := 0) (e := 0) (by decide +kernel) H
          · have H := hf46 q
            refine hw_ald (b := 0) (e := 0) (by decide +kernel) g0 (by decide) ?_
            refine hr_gr (w := 2) (b := 1) (e := 0) 1 rfl (by decide +kernel) ?_
            refine hw_ald (b := 0) (e := 0) (by decide +kernel) g0 (by decide) ?_
            refine hr_gi (w := φ 1 4) (b := 1) (e := 6) 1 rfl (by decide +kernel) hf_up_eq ?_
            obtain ⟨hl49, hu49, H⟩ := H
            refine hr_al (b := 1) (a0 := 0) (e := 0) (n := 940) (w := φ 2 ((φ 1 4).toNat)) 2 rfl (by decide +kernel) (by decide) hl49 hu49 (hf_up_ne (fun q => absurd q.1 (by decide))) ?_
            refine hr_calls (b := 32) (e := 1) (nl := 1) (As := [(0, φ 2 ((φ 1 4).toNat))]) (R := []) (by decide +kernel) rfl rfl (Nat.le_of_ble_eq_true rfl) (Nat.le_of_ble_eq_true rfl) ?_
            refine hw_mono H ?_
            rintro r ψ50 y50 ⟨hyx, hψx, z50, hr, H⟩
            subst hyx
            subst hψx
            subst hr
            refine ⟨hne0, ?_⟩
            show hw sc (d + 2) 29 131 L [(0, z50)] (hf_up φ 1 6 (φ 1 4)) y50 Q
            obtain ⟨hz51, ht51, hf51⟩ := H
            refine hw_if (a0 := 0) (b := 0) (e := 141) (by decide +kernel) hz51 (fun q => ?_) (fun q => ?_)
            · have H := ht51 q
              refine hw_ald (b := 0) (e := 0) (by decide +kernel) g0 (by decide) ?_
              refine hw_ald (b := 0) (e := 0) (by decide +kernel) g0 (by decide) ?_
              refine hr_gr (w := 2) (b := 1) (e := 0) 1 rfl (by decide +kernel) ?_
              refine hw_ald (b := 0) (e := 0) (by decide +kernel) g0 (by decide) ?_
              refine hr_gi (w := φ 1 4) (b := 1) (e := 6) 1 rfl (by decide +kernel) hf_up_eq ?_
              obtain ⟨hl52, hu52, H⟩ := H
              refine hr_al (b := 1) (a0 := 0) (e := 0) (n := 940) (w := φ 2 ((φ 1 4).toNat)) 2 rfl (by decide +kernel) (by decide) hl52 hu52 (hf_up_ne (fun q => absurd q.1 (by decide))) ?_
              refine hr_pi (b := 1) (e := 7) 1 rfl (by decide +kernel) ?_
              refine hw_ald (b := 0) (e := 0) (by decide +kernel) g0 (by decide) ?_
              refine hw_ald (b := 0) (e := 0) (by decide +kernel) g0 (by decide) ?_
              refine hr_gi (w := φ 2 ((φ 1 4).toNat)) (b := 1) (e := 7) 1 rfl (by decide +kernel) hf_up_eq ?_
              refine hr_calls (b := 35) (e := 1) (nl := 1) (As := [(0, φ 2 ((φ 1 4).toNat))]) (R := [(2, 1)]) (by decide +kernel) rfl rfl (Nat.le_of_ble_eq_true rfl) (Nat.le_of_ble_eq_true rfl) ?_
              refine hw_mono H ?_
              rintro r ψ53 y53 ⟨hyx, hψx, z53, hr, H⟩
              subst hyx
              subst hψx
              subst hr
              refine ⟨hne0, ?_⟩
              show hw sc (d + 2) 29 162 L [(0, z53), (2, 1)] (hf_up (hf_up φ 1 6 (φ 1 4)) 1 7 (φ 2 ((φ 1 4).toNat))) y53 Q
              obtain ⟨hz54, ht54, hf54⟩ := H
              refine hw_if (a0 := 0) (b := 0) (e := 169) (by decide +kernel) hz54 (fun q => ?_) (fun q => ?_)
              · have H := ht54 q
                refine hw_k (c := 1) (b := 0) (e := 1) (by decide +kernel) ?_
                refine hr_pi (b := 1) (e := 5) 1 rfl (by decide +kernel) ?_
                refine hw_ald (b := 0) (e := 0) (by decide +kernel) g0 (by decide) ?_
                refine hw_dup (a0 := 0) (e := 0) (by decide +kernel) (by decide) ?_
                refine hr_gi (w := φ 1 4) (b := 1) (e := 4) 1 rfl (by decide +kernel) ((hf_up_ne (fun q => absurd q.2 (by decide))).trans ((hf_up_ne (fun q => absurd q.2 (by decide))).trans (hf_up_ne (fun q => absurd q.2 (by decide))))) ?_
                refine hw_k (c := 1) (b := 0) (e := 1) (by decide +kernel) ?_
                refine hw_bin (w := (φ 1 4) + 1) (a0 := 0) (b := 0) (e := 0) (by decide +kernel) rfl ?_
                refine hr_pi (b := 1) (e := 4) 1 rfl (by decide +kernel) ?_
                exact hw_vret (a0 := 0) (e := 0) (by decide +kernel) H
              · have H := hf54 q
                refine hw_k (c := 5) (b := 0) (e := 1) (by decide +kernel) ?_
                refine hw_goto (a0 := 0) (b := 0) (e := 170) (by decide +kernel) ?_
                refine hr_pi (b := 1) (e := 5) 1 rfl (by decide +kernel) ?_
                refine hw_ald (b := 0) (e := 0) (by decide +kernel) g0 (by decide) ?_
                refine hw_dup (a0 := 0) (e := 0) (by decide +kernel) (by decide) ?_
                refine hr_gi (w := φ 1 4) (b := 1) (e := 4) 1 rfl (by decide +kernel) ((hf_up_ne (fun q => absurd q.2 (by decide))).trans ((hf_up_ne (fun q => absurd q.2 (by decide))).trans (hf_up_ne (fun q => absurd q.2 (by decide))))) ?_
                refine hw_k (c := 1) (b := 0) (e := 1) (by decide +kernel) ?_
                refine hw_bin (w := (φ 1 4) + 1) (a0 := 0) (b := 0) (e := 0) (by decide +kernel) rfl ?_
                refine hr_pi (b := 1) (e := 4) 1 rfl (by decide +kernel) ?_
                exact hw_vret (a0 := 0) (e := 0) (by decide +kernel) H
            · have H := hf51 q
              refine hw_ald (b := 0) (e := 0) (by decide +kernel) g0 (by decide) ?_
              refine hr_call (a0 := 11) (b := 33) (e := 1) (nl := 6) (As := []) (R := []) 1 rfl (by decide +kernel) rfl rfl (Nat.le_of_ble_eq_true rfl) (Nat.le_of_ble_eq_true rfl) ?_
              refine hw_mono H ?_
              rintro r ψ57 y57 ⟨hyx, hr, H⟩
              subst hyx
              subst hr
              refine ⟨hnen, ?_⟩
              show hw sc (d + 2) 29 138 L [] ψ57 y57 Q
              refine hw_goto (a0 := 0) (b := 0) (e := 183) (by decide +kernel) ?_
              exact hw_vret (a0 := 0) (e := 0) (by decide +kernel) H
        · have H := hf43 q
          refine hw_ald (b := 0) (e := 0) (by decide +kernel) g0 (by decide) ?_
          refine hw_k (c := 0) (b := 0) (e := 1) (by decide +kernel) ?_
          refine hr_pi (b := 1) (e := 5) 1 rfl (by decide +kernel) ?_
          refine hw_goto (a0 := 0) (b := 0) (e := 183) (by decide +kernel) ?_
          exact hw_vret (a0 := 0) (e := 0) (by decide +kernel) H
      · have H := hf42 q
        refine hw_ald (b := 0) (e := 0) (by decide +kernel) g0 (by decide) ?_
        refine hr_gi (w := φ 1 4) (b := 1) (e := 6) 1 rfl (by decide +kernel) hf_up_eq ?_
        refine hw_ald (b := 0) (e := 0) (by decide +kernel) g0 (by decide) ?_
        refine hr_gi (w := φ 1 3) (b := 1) (e := 3) 1 rfl (by decide +kernel) (hf_up_ne (fun q => absurd q.2 (by decide))) ?_
        obtain ⟨hz60, hy60, ht60, hf60⟩ := H
        refine hw_if2 (a0 := 0) (b := 2) (e := 85) (by decide +kernel) hz60 hy60 (fun q => ?_) (fun q => ?_)
        · have H := ht60 q
          refine hw_ald (b := 0) (e := 0) (by decide +kernel) g0 (by decide) ?_
          refine hr_gi (w := φ 1 4) (b := 1) (e := 6) 1 rfl (by decide +kernel) hf_up_eq ?_
          refine hw_ald (b := 0) (e := 0) (by decide +kernel) g0 (by decide) ?_
          refine hr_gi (w := φ 1 2) (b := 1) (e := 2) 1 rfl (by decide +kernel) (hf_up_ne (fun q => absurd q.2 (by decide))) ?_
          obtain ⟨hz61, hy61, ht61, hf61⟩ := H
          refine hw_if2 (a0 := 0) (b := 2) (e := 104) (by decide +kernel) hz61 hy61 (fun q => ?_) (fun q => ?_)
          · have H := ht61 q
            refine hw_ald (b := 0) (e := 0) (by decide +kernel) g0 (by decide) ?_
            refine hr_gr (w := 2) (b := 1) (e := 0) 1 rfl (by decide +kernel) ?_
            refine hw_ald (b := 0) (e := 0) (by decide +kernel) g0 (by decide) ?_
            refine hr_gi (w := φ 1 4) (b := 1) (e := 6) 1 rfl (by decide +kernel) hf_up_eq ?_
            obtain ⟨hl62, hu62, H⟩ := H
            refine hr_al (b := 1) (a0 := 0) (e := 0) (n := 940) (w := φ 2 ((φ 1 4).toNat)) 2 rfl (by decide +kernel) (by decide) hl62 hu62 (hf_up_ne (fun q => absurd q.1 (by decide))) ?_
            refine hr_calls (b := 31) (e := 1) (nl := 1) (As := [(0, φ 2 ((φ 1 4).toNat))]) (R := []) (by decide +kernel) rfl rfl (Nat.le_of_ble_eq_true rfl) (Nat.le_of_ble_eq_true rfl) ?_
            refine hw_mono H ?_
            rintro r ψ63 y63 ⟨hyx, hψx, z63, hr, H⟩
            subst hyx
            subst hψx
            subst hr
            refine ⟨hne0, ?_⟩
            show hw sc (d + 2) 29 116 L [(0, z63)] (hf_up φ 1 6 (φ 1 4)) y63 Q
            obtain ⟨hz64, ht64, hf64⟩ := H
            refine hw_if (a0 := 0) (b := 1) (e := 134) (by decide +kernel) hz64 (fun q => ?_) (fun q => ?_)
            · have H := ht64 q
              refine hw_ald (b := 0) (e := 0) (by decide +kernel) g0 (by decide) ?_
              refine hr_call (a0 := 11) (b := 33) (e := 1) (nl := 6) (As := []) (R := []) 1 rfl (by decide +kernel) rfl rfl (Nat.le_of_ble_eq_true rfl) (Nat.le_of_ble_eq_true rfl) ?_
              refine hw_mono H ?_
              rintro r ψ65 y65 ⟨hyx, hr, H⟩
              subst hyx
              subst hr
              refine ⟨hnen, ?_⟩
              show hw sc (d + 2) 29 138 L [] ψ65 y65 Q
              refine hw_goto (a0 := 0) (b := 0) (e := 183) (by decide +kernel) ?_
              exact hw_vret (a0 := 0) (e := 0) (by decide +kernel) H
            · have H := hf64 q
              refine hw_ald (b := 0) (e := 0) (by decide +kernel) g0 (by decide) ?_
              refine hr_gr (w := 2) (b := 1) (e := 0) 1 rfl (by decide +kernel) ?_
              refine hw_ald (b := 0) (e := 0) (by decide +kernel) g0 (by decide) ?_
              refine hr_gi (w := φ 1 4) (b := 1) (e := 6) 1 rfl (by decide +kernel) hf_up_eq ?_
              obtain ⟨hl67, hu67, H⟩ := H
              refine hr_al (b := 1) (a0 := 0) (e := 0) (n := 940) (w := φ 2 ((φ 1 4).toNat)) 2 rfl (by decide +kernel) (by decide) hl67 hu67 (hf_up_ne (fun q => absurd q.1 (by decide))) ?_
              refine hr_calls (b := 32) (e := 1) (nl := 1) (As := [(0, φ 2 ((φ 1 4).toNat))]) (R := []) (by decide +kernel) rfl rfl (Nat.le_of_ble_eq_true rfl) (Nat.le_of_ble_eq_true rfl) ?_
              refine hw_mono H ?_
              rintro r ψ68 y68 ⟨hyx, hψx, z68, hr, H⟩
              subst hyx
              subst hψx
              subst hr
              refine ⟨hne0, ?_⟩
              show hw sc (d + 2) 29 131 L [(0, z68)] (hf_up φ 1 6 (φ 1 4)) y68 Q
              obtain ⟨hz69, ht69, hf69⟩ := H
              refine hw_if (a0 := 0) (b := 0) (e := 141) (by decide +kernel) hz69 (fun q => ?_) (fun q => ?_)
              · have H := ht69 q
                refine hw_ald (b := 0) (e := 0) (by decide +kernel) g0 (by decide) ?_
                refine hw_ald (b := 0) (e := 0) (by decide +kernel) g0 (by decide) ?_
                refine hr_gr (w := 2) (b := 1) (e := 0) 1 rfl (by decide +kernel) ?_
                refine hw_ald (b := 0) (e := 0) (by decide +kernel) g0 (by decide) ?_
                refine hr_gi (w := φ 1 4) (b := 1) (e := 6) 1 rfl (by decide +kernel) hf_up_eq ?_
                obtain ⟨hl70, hu70, H⟩ := H
                refine hr_al (b := 1) (a0 := 0) (e := 0) (n := 940) (w := φ 2 ((φ 1 4).toNat)) 2 rfl (by decide +kernel) (by decide) hl70 hu70 (hf_up_ne (fun q => absurd q.1 (by decide))) ?_
                refine hr_pi (b := 1) (e := 7) 1 rfl (by decide +kernel) ?_
                refine hw_ald (b := 0) (e := 0) (by decide +kernel) g0 (by decide) ?_
                refine hw_ald (b := 0) (e := 0) (by decide +kernel) g0 (by decide) ?_
                refine hr_gi (w := φ 2 ((φ 1 4).toNat)) (b := 1) (e := 7) 1 rfl (by decide +kernel) hf_up_eq ?_
                refine hr_calls (b := 35) (e := 1) (nl := 1) (As := [(0, φ 2 ((φ 1 4).toNat))]) (R := [(2, 1)]) (by decide +kernel) rfl rfl (Nat.le_of_ble_eq_true rfl) (Nat.le_of_ble_eq_true rfl) ?_
                refine hw_mono H ?_
                rintro r ψ71 y71 ⟨hyx, hψx, z71, hr, H⟩
                subst hyx
                subst hψx
                subst hr
                refine ⟨hne0, ?_⟩
                show hw sc (d + 2) 29 162 L [(0, z71), (2, 1)] (hf_up (hf_up φ 1 6 (φ 1 4)) 1 7 (φ 2 ((φ 1 4).toNat))) y71 Q
                obtain ⟨hz72, ht72, hf72⟩ := H
                refine hw_if (a0 := 0) (b := 0) (e := 169) (by decide +kernel) hz72 (fun q => ?_) (fun q => ?_)
                · have H := ht72 q
                  refine hw_k (c := 1) (b := 0) (e := 1) (by decide +kernel) ?_
                  refine hr_pi (b := 1) (e := 5) 1 rfl (by decide +kernel) ?_
                  refine hw_ald (b := 0) (e := 0) (by decide +kernel) g0 (by decide) ?_
                  refine hw_dup (a0 := 0) (e := 0) (by decide +kernel) (by decide) ?_
                  refine hr_gi (w := φ 1 4) (b := 1) (e := 4) 1 rfl (by decide +kernel) ((hf_up_ne (fun q => absurd q.2 (by decide))).trans ((hf_up_ne (fun q => absurd q.2 (by decide))).trans (hf_up_ne (fun q => absurd q.2 (by decide))))) ?_
                  refine hw_k (c := 1) (b := 0) (e := 1) (by decide +kernel) ?_
                  refine hw_bin (w := (φ 1 4) + 1) (a0 := 0) (b := 0) (e := 0) (by decide +kernel) rfl ?_
                  refine hr_pi (b := 1) (e := 4) 1 rfl (by decide +kernel) ?_
                  exact hw_vret (a0 := 0) (e := 0) (by decide +kernel) H
                · have H := hf72 q
                  refine hw_k (c := 5) (b := 0) (e := 1) (by decide +kernel) ?_
                  refine hw_goto (a0 := 0) (b := 0) (e := 170) (by decide +kernel) ?_
                  refine hr_pi (b := 1) (e := 5) 1 rfl (by decide +kernel) ?_
                  refine hw_ald (b := 0) (e := 0) (by decide +kernel) g0 (by decide) ?_
                  refine hw_dup (a0 := 0) (e := 0) (by decide +kernel) (by decide) ?_
                  refine hr_gi (w := φ 1 4) (b := 1) (e := 4) 1 rfl (by decide +kernel) ((hf_up_ne (fun q => absurd q.2 (by decide))).trans ((hf_up_ne (fun q => absurd q.2 (by decide))).trans (hf_up_ne (fun q => absurd q.2 (by decide))))) ?_
                  refine hw_k (c := 1) (b := 0) (e := 1) (by decide +kernel) ?_
                  refine hw_bin (w := (φ 1 4) + 1) (a0 := 0) (b := 0) (e := 0) (by decide +kernel) rfl ?_
                  refine hr_pi (b := 1) (e := 4) 1 rfl (by decide +kernel) ?_
                  exact hw_vret (a0 := 0) (e := 0) (by decide +kernel) H
              · have H := hf69 q
                refine hw_ald (b := 0) (e := 0) (by decide +kernel) g0 (by decide) ?_
                refine hr_call (a0 := 11) (b := 33) (e := 1) (nl := 6) (As := []) (R := []) 1 rfl (by decide +kernel) rfl rfl (Nat.le_of_ble_eq_true rfl) (Nat.le_of_ble_eq_true rfl) ?_
                refine hw_mono H ?_
                rintro r ψ75 y75 ⟨hyx, hr, H⟩
                subst hyx
                subst hr
                refine ⟨hnen, ?_⟩
                show hw sc (d + 2) 29 138 L [] ψ75 y75 Q
                refine hw_goto (a0 := 0) (b := 0) (e := 183) (by decide +kernel) ?_
                exact hw_vret (a0 := 0) (e := 0) (by decide +kernel) H
          · have H := hf61 q
            refine hw_ald (b := 0) (e := 0) (by decide +kernel) g0 (by decide) ?_
            refine hw_k (c := 0) (b := 0) (e := 1) (by decide +kernel) ?_
            refine hr_pi (b := 1) (e := 5) 1 rfl (by decide +kernel) ?_
            refine hw_goto (a0 := 0) (b := 0) (e := 183) (by decide +kernel) ?_
            exact hw_vret (a0 := 0) (e := 0) (by decide +kernel) H
        · have H := hf60 q
          refine hw_ald (b := 0) (e := 0) (by decide +kernel) g0 (by decide) ?_
          refine hw_ald (b := 0) (e := 0) (by decide +kernel) g0 (by decide) ?_
          refine hr_gi (w := φ 1 3) (b := 1) (e := 3) 1 rfl (by decide +kernel) (hf_up_ne (fun q => absurd q.2 (by decide))) ?_
          refine hr_pi (b := 1) (e := 6) 1 rfl (by decide +kernel) ?_
          refine hw_ald (b := 0) (e := 0) (by decide +kernel) g0 (by decide) ?_
          refine hw_k (c := 1) (b := 0) (e := 1) (by decide +kernel) ?_
          refine hr_pi (b := 1) (e := 5) 1 rfl (by decide +kernel) ?_
          refine hw_goto (a0 := 0) (b := 0) (e := 183) (by decide +kernel) ?_
          exact hw_vret (a0 := 0) (e := 0) (by decide +kernel) H
    · have H := hf41 q
      refine hw_ald (b := 0) (e := 0) (by decide +kernel) g0 (by decide) ?_
      refine hw_dup (a0 := 0) (e := 0) (by decide +kernel) (by decide) ?_
      refine hr_gi (w := φ 1 4) (b := 1) (e := 4) 1 rfl (by decide +kernel) rfl ?_
      refine hw_k (c := 1) (b := 0) (e := 1) (by decide +kernel) ?_
      refine hw_bin (w := (φ 1 4) + 1) (a0 := 0) (b := 0) (e := 0) (by decide +kernel) rfl ?_
      refine hr_pi (b := 1) (e := 4) 1 rfl (by decide +kernel) ?_
      refine hw_goto (a0 := 0) (b := 0) (e := 0) (by decide +kernel) ?_
      exact H
theorem sf_29_1_l0 {sc : List Int} {d x : Nat} {Q : Option jm_V → hf_F → Nat → Prop} : ∀ (n : Nat) (φ : hf_F) (L : jm_L), jm_get L 0 = some (2, 1) → Inv φ → 940 - φ 1 4 < (n : Int) → (∀ ψ : hf_F, Inv ψ → Fr [2004, 2005, 2006, 2007, 2008] φ ψ → F_Reader_advance_1_l0 n φ  = ψ → Q none ψ x) → hw sc (d + 2) 29 0 L [] φ x Q := by
  intro n
  induction n with
  | zero =>
    intro φ L  g0 hI hM  hQ
    have fm1_4 := iv_at (a := 1) (k := 4) (lo := 0) (u := 940) hI (by decide +kernel)
    exfalso
    omega
  | succ n ih =>
    intro φ L  g0 hI hM  hQ
    have fm1_4 := iv_at (a := 1) (k := 4) (lo := 0) (u := 940) hI (by decide +kernel)
    refine sf_29_1_v0 g0 ?_
    have e0 := F_Reader_advance_1_l0_s (φ := φ) n
    have f1 := iv_at (a := 1) (k := 4) (lo := 0) (u := 940) hI (by decide +kernel)
    have f2 := iv_at (a := 1) (k := 2) (lo := 0) (u := 940) hI (by decide +kernel)
    refine ⟨by unfold hi; omega, by unfold hi; omega, fun q1 => ?_, fun q1 => ?_⟩
    · skip
      have e1a := e0.trans (if_pos q1)
      have i3 : Inv (hf_up φ 1 6 (φ 1 4)) := iv_up (lo := 0) (u := 940) hI (by decide +kernel) (by omega) (by omega)
      have r3 : Fr [2004, 2005, 2006, 2007, 2008] φ (hf_up φ 1 6 (φ 1 4)) := fr_up (fr_rf) (by decide)
      have f4 := iv_at (a := 1) (k := 3) (lo := 0) (u := 940) hI (by decide +kernel)
      refine ⟨by unfold hi; omega, by unfold hi; omega, fun q2 => ?_, fun q2 => ?_⟩
      · skip
        have e2a := e1a.trans (if_pos q2)
        refine ⟨by unfold hi; omega, by unfold hi; omega, fun q3 => ?_, fun q3 => ?_⟩
        · skip
          have e3a := e2a.trans (if_pos q3)
          refine ⟨by omega, by omega, ?_⟩
          have f5 := iv_ar (a := 2) (s := 0) (t := 940) (lo := (-128 : Int)) (u := 127) (z := φ 1 4) hI (by decide +kernel) (by omega) (by omega)
          refine sf_31 (φ := (hf_up φ 1 6 (φ 1 4))) i3 (by omega) (by omega) (fun z5 hp5 hE5 => ⟨rfl, rfl, z5, rfl, ?_⟩)
          have e5 := e3a.trans (bnp_e hE5)
          refine ⟨by unfold hi; omega, fun q6 => ?_, fun q6 => ?_⟩
          · skip
            have e6a := e5.trans (if_pos q6)
            refine sf_33_1 (φ := (hf_up φ 1 6 (φ 1 4))) i3  (fun ψ7 hI7 hF7 hE7 => ⟨rfl, rfl, ?_⟩)
            have hG7 : Fr [2004, 2005, 2006, 2007, 2008] φ ψ7 := fr_tr r3 hF7 (by decide)
            have e7 := e6a.trans (bnv_e hE7)
            exact hQ ψ7 hI7 hG7 e7
          · skip
            have e6b := e5.trans (if_neg q6)
            refine ⟨by omega, by omega, ?_⟩
            refine sf_32 (φ := (hf_up φ 1 6 (φ 1 4))) i3 (by omega) (by omega) (fun z10 hp10 hE10 => ⟨rfl, rfl, z10, rfl, ?_⟩)
            have e10 := e6b.trans (bnp_e hE10)
            refine ⟨by unfold hi; omega, fun q11 => ?_, fun q11 => ?_⟩
            · skip
              have e11a := e10.trans (if_pos q11)
              refine ⟨by omega, by omega, ?_⟩
              have i6 : Inv (hf_up (hf_up φ 1 6 (φ 1 4)) 1 7 (φ 2 ((φ 1 4).toNat))) := iv_up (lo := (-128 : Int)) (u := 999) i3 (by decide +kernel) (by omega) (by omega)
              have r6 : Fr [2004, 2005, 2006, 2007, 2008] φ (hf_up (hf_up φ 1 6 (φ 1 4)) 1 7 (φ 2 ((φ 1 4).toNat))) := fr_up r3 (by decide)
              refine sf_35 (φ := (hf_up (hf_up φ 1 6 (φ 1 4)) 1 7 (φ 2 ((φ 1 4).toNat)))) i6 (by omega) (by omega) (fun z13 hp13 hE13 => ⟨rfl, rfl, z13, rfl, ?_⟩)
              have e13 := e11a.trans (bnp_e hE13)
              refine ⟨by unfold hi; omega, fun q14 => ?_, fun q14 => ?_⟩
              · skip
                have e14a := e13.trans (if_pos q14)
                have i7 : Inv (hf_up (hf_up (hf_up φ 1 6 (φ 1 4)) 1 7 (φ 2 ((φ 1 4).toNat))) 1 5 1) := iv_up (lo := 0) (u := 5) i6 (by decide +kernel) (by omega) (by omega)
                have r7 : Fr [2004, 2005, 2006, 2007, 2008] φ (hf_up (hf_up (hf_up φ 1 6 (φ 1 4)) 1 7 (φ 2 ((φ 1 4).toNat))) 1 5 1) := fr_up r6 (by decide)
                have i8 : Inv (hf_up (hf_up (hf_up (hf_up φ 1 6 (φ 1 4)) 1 7 (φ 2 ((φ 1 4).toNat))) 1 5 1) 1 4 ((φ 1 4) + 1)) := iv_up (lo := 0) (u := 940) i7 (by decide +kernel) (by omega) (by omega)
                have r8 : Fr [2004, 2005, 2006, 2007, 2008] φ (hf_up (hf_up (hf_up (hf_up φ 1 6 (φ 1 4)) 1 7 (φ 2 ((φ 1 4).toNat))) 1 5 1) 1 4 ((φ 1 4) + 1)) := fr_up r7 (by decide)
                exact hQ (hf_up (hf_up (hf_up (hf_up φ 1 6 (φ 1 4)) 1 7 (φ 2 ((φ 1 4).toNat))) 1 5 1) 1 4 ((φ 1 4) + 1)) i8 r8 e14a
              · skip
                have e14b := e13.trans (if_neg q14)
                have i9 : Inv (hf_up (hf_up (hf_up φ 1 6 (φ 1 4)) 1 7 (φ 2 ((φ 1 4).toNat))) 1 5 5) := iv_up (lo := 0) (u := 5) i6 (by decide +kernel) (by omega) (by omega)
                have r9 : Fr [2004, 2005, 2006, 2007, 2008] φ (hf_up (hf_up (hf_up φ 1 6 (φ 1 4)) 1 7 (φ 2 ((φ 1 4).toNat))) 1 5 5) := fr_up r6 (by decide)
                have i10 : Inv (hf_up (hf_up (hf_up (hf_up φ 1 6 (φ 1 4)) 1 7 (φ 2 ((φ 1 4).toNat))) 1 5 5) 1 4 ((φ 1 4) + 1)) := iv_up (lo := 0) (u := 940) i9 (by decide +kernel) (by omega) (by omega)
                have r10 : Fr [2004, 2005, 2006, 2007, 2008] φ (hf_up (hf_up (hf_up (hf_up φ 1 6 (φ 1 4)) 1 7 (φ 2 ((φ 1 4).toNat))) 1 5 5) 1 4 ((φ 1 4) + 1)) := fr_up r9 (by decide)
                exact hQ (hf_up (hf_up (hf_up (hf_up φ 1 6 (φ 1 4)) 1 7 (φ 2 ((φ 1 4).toNat))) 1 5 5) 1 4 ((φ 1 4) + 1)) i10 r10 e14b
            · skip
              have e11b := e10.trans (if_neg q11)
              refine sf_33_1 (φ := (hf_up φ 1 6 (φ 1 4))) i3  (fun ψ17 hI17 hF17 hE17 => ⟨rfl, rfl, ?_⟩)
              have hG17 : Fr [2004, 2005, 2006, 2007, 2008] φ ψ17 := fr_tr r3 hF17 (by decide)
              have e17 := e11b.trans (bnv_e hE17)
              exact hQ ψ17 hI17 hG17 e17
        · skip
          have e3b := e2a.trans (if_neg q3)
          have i11 : Inv (hf_up (hf_up φ 1 6 (φ 1 4)) 1 5 0) := iv_up (lo := 0) (u := 5) i3 (by decide +kernel) (by omega) (by omega)
          have r11 : Fr [2004, 2005, 2006, 2007, 2008] φ (hf_up (hf_up φ 1 6 (φ 1 4)) 1 5 0) := fr_up r3 (by decide)
          exact hQ (hf_up (hf_up φ 1 6 (φ 1 4)) 1 5 0) i11 r11 e3b
      · skip
        have e2b := e1a.trans (if_neg q2)
        refine ⟨by unfold hi; omega, by unfold hi; omega, fun q20 => ?_, fun q20 => ?_⟩
        · skip
          have e20a := e2b.trans (if_pos q20)
          refine ⟨by unfold hi; omega, by unfold hi; omega, fun q21 => ?_, fun q21 => ?_⟩
          · skip
            have e21a := e20a.trans (if_pos q21)
            refine ⟨by omega, by omega, ?_⟩
            have f12 := iv_ar (a := 2) (s := 0) (t := 940) (lo := (-128 : Int)) (u := 127) (z := φ 1 4) hI (by decide +kernel) (by omega) (by omega)
            refine sf_31 (φ := (hf_up φ 1 6 (φ 1 4))) i3 (by omega) (by omega) (fun z23 hp23 hE23 => ⟨rfl, rfl, z23, rfl, ?_⟩)
            have e23 := e21a.trans (bnp_e hE23)
            refine ⟨by unfold hi; omega, fun q24 => ?_, fun q24 => ?_⟩
            · skip
              have e24a := e23.trans (if_pos q24)
              refine sf_33_1 (φ := (hf_up φ 1 6 (φ 1 4))) i3  (fun ψ25 hI25 hF25 hE25 => ⟨rfl, rfl, ?_⟩)
              have hG25 : Fr [2004, 2005, 2006, 2007, 2008] φ ψ25 := fr_tr r3 hF25 (by decide)
              have e25 := e24a.trans (bnv_e hE25)
              exact hQ ψ25 hI25 hG25 e25
            · skip
              have e24b := e23.trans (if_neg q24)
              refine ⟨by omega, by omega, ?_⟩
              refine sf_32 (φ := (hf_up φ 1 6 (φ 1 4))) i3 (by omega) (by omega) (fun z28 hp28 hE28 => ⟨rfl, rfl, z28, rfl, ?_⟩)
              have e28 := e24b.trans (bnp_e hE28)
              refine ⟨by unfold hi; omega, fun q29 => ?_, fun q29 => ?_⟩
              · skip
                have e29a := e28.trans (if_pos q29)
                refine ⟨by omega, by omega, ?_⟩
                have i13 : Inv (hf_up (hf_up φ 1 6 (φ 1 4)) 1 7 (φ 2 ((φ 1 4).toNat))) := iv_up (lo := (-128 : Int)) (u := 999) i3 (by decide +kernel) (by omega) (by omega)
                have r13 : Fr [2004, 2005, 2006, 2007, 2008] φ (hf_up (hf_up φ 1 6 (φ 1 4)) 1 7 (φ 2 ((φ 1 4).toNat))) := fr_up r3 (by decide)
                refine sf_35 (φ := (hf_up (hf_up φ 1 6 (φ 1 4)) 1 7 (φ 2 ((φ 1 4).toNat)))) i13 (by omega) (by omega) (fun z31 hp31 hE31 => ⟨rfl, rfl, z31, rfl, ?_⟩)
                have e31 := e29a.trans (bnp_e hE31)
                refine ⟨by unfold hi; omega, fun q32 => ?_, fun q32 => ?_⟩
                · skip
                  have e32a := e31.trans (if_pos q32)
                  have i14 : Inv (hf_up (hf_up (hf_up φ 1 6 (φ 1 4)) 1 7 (φ 2 ((φ 1 4).toNat))) 1 5 1) := iv_up (lo := 0) (u := 5) i13 (by decide +kernel) (by omega) (by omega)
                  have r14 : Fr [2004, 2005, 2006, 2007, 2008] φ (hf_up (hf_up (hf_up φ 1 6 (φ 1 4)) 1 7 (φ 2 ((φ 1 4).toNat))) 1 5 1) := fr_up r13 (by decide)
                  have i15 : Inv (hf_up (hf_up (hf_up (hf_up φ 1 6 (φ 1 4)) 1 7 (φ 2 ((φ 1 4).toNat))) 1 5 1) 1 4 ((φ 1 4) + 1)) := iv_up (lo := 0) (u := 940) i14 (by decide +kernel) (by omega) (by omega)
                  have r15 : Fr [2004, 2005, 2006, 2007, 2008] φ (hf_up (hf_up (hf_up (hf_up φ 1 6 (φ 1 4)) 1 7 (φ 2 ((φ 1 4).toNat))) 1 5 1) 1 4 ((φ 1 4) + 1)) := fr_up r14 (by decide)
                  exact hQ (hf_up (hf_up (hf_up (hf_up φ 1 6 (φ 1 4)) 1 7 (φ 2 ((φ 1 4).toNat))) 1 5 1) 1 4 ((φ 1 4) + 1)) i15 r15 e32a
                · skip
                  have e32b := e31.trans (if_neg q32)
                  have i16 : Inv (hf_up (hf_up (hf_up φ 1 6 (φ 1 4)) 1 7 (φ 2 ((φ 1 4).toNat))) 1 5 5) := iv_up (lo := 0) (u := 5) i13 (by decide +kernel) (by omega) (by omega)
                  have r16 : Fr [2004, 2005, 2006, 2007, 2008] φ (hf_up (hf_up (hf_up φ 1 6 (φ 1 4)) 1 7 (φ 2 ((φ 1 4).toNat))) 1 5 5) := fr_up r13 (by decide)
                  have i17 : Inv (hf_up (hf_up (hf_up (hf_up φ 1 6 (φ 1 4)) 1 7 (φ 2 ((φ 1 4).toNat))) 1 5 5) 1 4 ((φ 1 4) + 1)) := iv_up (lo := 0) (u := 940) i16 (by decide +kernel) (by omega) (by omega)
                  have r17 : Fr [2004, 2005, 2006, 2007, 2008] φ (hf_up (hf_up (hf_up (hf_up φ 1 6 (φ 1 4)) 1 7 (φ 2 ((φ 1 4).toNat))) 1 5 5) 1 4 ((φ 1 4) + 1)) := fr_up r16 (by decide)
                  exact hQ (hf_up (hf_up (hf_up (hf_up φ 1 6 (φ 1 4)) 1 7 (φ 2 ((φ 1 4).toNat))) 1 5 5) 1 4 ((φ 1 4) + 1)) i17 r17 e32b
              · skip
                have e29b := e28.trans (if_neg q29)
                refine sf_33_1 (φ := (hf_up φ 1 6 (φ 1 4))) i3  (fun ψ35 hI35 hF35 hE35 => ⟨rfl, rfl, ?_⟩)
                have hG35 : Fr [2004, 2005, 2006, 2007, 2008] φ ψ35 := fr_tr r3 hF35 (by decide)
                have e35 := e29b.trans (bnv_e hE35)
                exact hQ ψ35 hI35 hG35 e35
          · skip
            have e21b := e20a.trans (if_neg q21)
            have i18 : Inv (hf_up (hf_up φ 1 6 (φ 1 4)) 1 5 0) := iv_up (lo := 0) (u := 5) i3 (by decide +kernel) (by omega) (by omega)
            have r18 : Fr [2004, 2005, 2006, 2007, 2008] φ (hf_up (hf_up φ 1 6 (φ 1 4)) 1 5 0) := fr_up r3 (by decide)
            exact hQ (hf_up (hf_up φ 1 6 (φ 1 4)) 1 5 0) i18 r18 e21b
        · skip
          have e20b := e2b.trans (if_neg q20)
          have i19 : Inv (hf_up (hf_up φ 1 6 (φ 1 4)) 1 6 (φ 1 3)) := iv_up (lo := 0) (u := 940) i3 (by decide +kernel) (by omega) (by omega)
          have r19 : Fr [2004, 2005, 2006, 2007, 2008] φ (hf_up (hf_up φ 1 6 (φ 1 4)) 1 6 (φ 1 3)) := fr_up r3 (by decide)
          have i20 : Inv (hf_up (hf_up (hf_up φ 1 6 (φ 1 4)) 1 6 (φ 1 3)) 1 5 1) := iv_up (lo := 0) (u := 5) i19 (by decide +kernel) (by omega) (by omega)
          have r20 : Fr [2004, 2005, 2006, 2007, 2008] φ (hf_up (hf_up (hf_up φ 1 6 (φ 1 4)) 1 6 (φ 1 3)) 1 5 1) := fr_up r19 (by decide)
          exact hQ (hf_up (hf_up (hf_up φ 1 6 (φ 1 4)) 1 6 (φ 1 3)) 1 5 1) i20 r20 e20b
    · skip
      have e1b := e0.trans (if_neg q1)
      refine ⟨by omega, by omega, ?_⟩
      have f21 := iv_ar (a := 2) (s := 0) (t := 940) (lo := (-128 : Int)) (u := 127) (z := φ 1 4) hI (by decide +kernel) (by omega) (by omega)
      refine sf_30 (φ := φ) hI (by omega) (by omega) (fun z40 hp40 hE40 => ⟨rfl, rfl, z40, rfl, ?_⟩)
      have e40 := e1b.trans (bnp_e hE40)
      refine ⟨by unfold hi; omega, fun q41 => ?_, fun q41 => ?_⟩
      · skip
        have e41a := e40.trans (if_pos q41)
        have i22 : Inv (hf_up φ 1 6 (φ 1 4)) := iv_up (lo := 0) (u := 940) hI (by decide +kernel) (by omega) (by omega)
        have r22 : Fr [2004, 2005, 2006, 2007, 2008] φ (hf_up φ 1 6 (φ 1 4)) := fr_up (fr_rf) (by decide)
        have f23 := iv_at (a := 1) (k := 3) (lo := 0) (u := 940) hI (by decide +kernel)
        refine ⟨by unfold hi; omega, by unfold hi; omega, fun q42 => ?_, fun q42 => ?_⟩
        · skip
          have e42a := e41a.trans (if_pos q42)
          refine ⟨by unfold hi; omega, by unfold hi; omega, fun q43 => ?_, fun q43 => ?_⟩
          · skip
            have e43a := e42a.trans (if_pos q43)
            refine ⟨by omega, by omega, ?_⟩
            refine sf_31 (φ := (hf_up φ 1 6 (φ 1 4))) i22 (by omega) (by omega) (fun z45 hp45 hE45 => ⟨rfl, rfl, z45, rfl, ?_⟩)
            have e45 := e43a.trans (bnp_e hE45)
            refine ⟨by unfold hi; omega, fun q46 => ?_, fun q46 => ?_⟩
            · skip
              have e46a := e45.trans (if_pos q46)
              refine sf_33_1 (φ := (hf_up φ 1 6 (φ 1 4))) i22  (fun ψ47 hI47 hF47 hE47 => ⟨rfl, rfl, ?_⟩)
              have hG47 : Fr [2004, 2005, 2006, 2007, 2008] φ ψ47 := fr_tr r22 hF47 (by decide)
              have e47 := e46a.trans (bnv_e hE47)
              exact hQ ψ47 hI47 hG47 e47
            · skip
              have e46b := e45.trans (if_neg q46)
              refine ⟨by omega, by omega, ?_⟩
              refine sf_32 (φ := (hf_up φ 1 6 (φ 1 4))) i22 (by omega) (by omega) (fun z50 hp50 hE50 => ⟨rfl, rfl, z50, rfl, ?_⟩)
              have e50 := e46b.trans (bnp_e hE50)
              refine ⟨by unfold hi; omega, fun q51 => ?_, fun q51 => ?_⟩
              · skip
                have e51a := e50.trans (if_pos q51)
                refine ⟨by omega, by omega, ?_⟩
                have i24 : Inv (hf_up (hf_up φ 1 6 (φ 1 4)) 1 7 (φ 2 ((φ 1 4).toNat))) := iv_up (lo := (-128 : Int)) (u := 999) i22 (by decide +kernel) (by omega) (by omega)
                have r24 : Fr [2004, 2005, 2006, 2007, 2008] φ (hf_up (hf_up φ 1 6 (φ 1 4)) 1 7 (φ 2 ((φ 1 4).toNat))) := fr_up r22 (by decide)
                refine sf_35 (φ := (hf_up (hf_up φ 1 6 (φ 1 4)) 1 7 (φ 2 ((φ 1 4).toNat)))) i24 (by omega) (by omega) (fun z53 hp53 hE53 => ⟨rfl, rfl, z53, rfl, ?_⟩)
                have e53 := e51a.trans (bnp_e hE53)
                refine ⟨by unfold hi; omega, fun q54 => ?_, fun q54 => ?_⟩
                · skip
                  have e54a := e53.trans (if_pos q54)
                  have i25 : Inv (hf_up (hf_up (hf_up φ 1 6 (φ 1 4)) 1 7 (φ 2 ((φ 1 4).toNat))) 1 5 1) := iv_up (lo := 0) (u := 5) i24 (by decide +kernel) (by omega) (by omega)
                  have r25 : Fr [2004, 2005, 2006, 2007, 2008] φ (hf_up (hf_up (hf_up φ 1 6 (φ 1 4)) 1 7 (φ 2 ((φ 1 4).toNat))) 1 5 1) := fr_up r24 (by decide)
                  have i26 : Inv (hf_up (hf_up (hf_up (hf_up φ 1 6 (φ 1 4)) 1 7 (φ 2 ((φ 1 4).toNat))) 1 5 1) 1 4 ((φ 1 4) + 1)) := iv_up (lo := 0) (u := 940) i25 (by decide +kernel) (by omega) (by omega)
                  have r26 : Fr [2004, 2005, 2006, 2007, 2008] φ (hf_up (hf_up (hf_up (hf_up φ 1 6 (φ 1 4)) 1 7 (φ 2 ((φ 1 4).toNat))) 1 5 1) 1 4 ((φ 1 4) + 1)) := fr_up r25 (by decide)
                  exact hQ (hf_up (hf_up (hf_up (hf_up φ 1 6 (φ 1 4)) 1 7 (φ 2 ((φ 1 4).toNat))) 1 5 1) 1 4 ((φ 1 4) + 1)) i26 r26 e54a
                · skip
                  have e54b := e53.trans (if_neg q54)
                  have i27 : Inv (hf_up (hf_up (hf_up φ 1 6 (φ 1 4)) 1 7 (φ 2 ((φ 1 4).toNat))) 1 5 5) := iv_up (lo := 0) (u := 5) i24 (by decide +kernel) (by omega) (by omega)
                  have r27 : Fr [2004, 2005, 2006, 2007, 2008] φ (hf_up (hf_up (hf_up φ 1 6 (φ 1 4)) 1 7 (φ 2 ((φ 1 4).toNat))) 1 5 5) := fr_up r24 (by decide)
                  have i28 : Inv (hf_up (hf_up (hf_up (hf_up φ 1 6 (φ 1 4)) 1 7 (φ 2 ((φ 1 4).toNat))) 1 5 5) 1 4 ((φ 1 4) + 1)) := iv_up (lo := 0) (u := 940) i27 (by decide +kernel) (by omega) (by omega)
                  have r28 : Fr [2004, 2005, 2006, 2007, 2008] φ (hf_up (hf_up (hf_up (hf_up φ 1 6 (φ 1 4)) 1 7 (φ 2 ((φ 1 4).toNat))) 1 5 5) 1 4 ((φ 1 4) + 1)) := fr_up r27 (by decide)
                  exact hQ (hf_up (hf_up (hf_up (hf_up φ 1 6 (φ 1 4)) 1 7 (φ 2 ((φ 1 4).toNat))) 1 5 5) 1 4 ((φ 1 4) + 1)) i28 r28 e54b
              · skip
                have e51b := e50.trans (if_neg q51)
                refine sf_33_1 (φ := (hf_up φ 1 6 (φ 1 4))) i22  (fun ψ57 hI57 hF57 hE57 => ⟨rfl, rfl, ?_⟩)
                have hG57 : Fr [2004, 2005, 2006, 2007, 2008] φ ψ57 := fr_tr r22 hF57 (by decide)
                have e57 := e51b.trans (bnv_e hE57)
                exact hQ ψ57 hI57 hG57 e57
          · skip
            have e43b := e42a.trans (if_neg q43)
            have i29 : Inv (hf_up (hf_up φ 1 6 (φ 1 4)) 1 5 0) := iv_up (lo := 0) (u := 5) i22 (by decide +kernel) (by omega) (by omega)
            have r29 : Fr [2004, 2005, 2006, 2007, 2008] φ (hf_up (hf_up φ 1 6 (φ 1 4)) 1 5 0) := fr_up r22 (by decide)
            exact hQ (hf_up (hf_up φ 1 6 (φ 1 4)) 1 5 0) i29 r29 e43b
        · skip
          have e42b := e41a.trans (if_neg q42)
          refine ⟨by unfold hi; omega, by unfold hi; omega, fun q60 => ?_, fun q60 => ?_⟩
          · skip
            have e60a := e42b.trans (if_pos q60)
            refine ⟨by unfold hi; omega, by unfold hi; omega, fun q61 => ?_, fun q61 => ?_⟩
            · skip
              have e61a := e60a.trans (if_pos q61)
              refine ⟨by omega, by omega, ?_⟩
              refine sf_31 (φ := (hf_up φ 1 6 (φ 1 4))) i22 (by omega) (by omega) (fun z63 hp63 hE63 => ⟨rfl, rfl, z63, rfl, ?_⟩)
              have e63 := e61a.trans (bnp_e hE63)
              refine ⟨by unfold hi; omega, fun q64 => ?_, fun q64 => ?_⟩
              · skip
                have e64a := e63.trans (if_pos q64)
                refine sf_33_1 (φ := (hf_up φ 1 6 (φ 1 4))) i22  (fun ψ65 hI65 hF65 hE65 => ⟨rfl, rfl, ?_⟩)
                have hG65 : Fr [2004, 2005, 2006, 2007, 2008] φ ψ65 := fr_tr r22 hF65 (by decide)
                have e65 := e64a.trans (bnv_e hE65)
                exact hQ ψ65 hI65 hG65 e65
              · skip
                have e64b := e63.trans (if_neg q64)
                refine ⟨by omega, by omega, ?_⟩
                refine sf_32 (φ := (hf_up φ 1 6 (φ 1 4))) i22 (by omega) (by omega) (fun z68 hp68 hE68 => ⟨rfl, rfl, z68, rfl, ?_⟩)
                have e68 := e64b.trans (bnp_e hE68)
                refine ⟨by unfold hi; omega, fun q69 => ?_, fun q69 => ?_⟩
                · skip
                  have e69a := e68.trans (if_pos q69)
                  refine ⟨by omega, by omega, ?_⟩
                  have i30 : Inv (hf_up (hf_up φ 1 6 (φ 1 4)) 1 7 (φ 2 ((φ 1 4).toNat))) := iv_up (lo := (-128 : Int)) (u := 999) i22 (by decide +kernel) (by omega) (by omega)
                  have r30 : Fr [2004, 2005, 2006, 2007, 2008] φ (hf_up (hf_up φ 1 6 (φ 1 4)) 1 7 (φ 2 ((φ 1 4).toNat))) := fr_up r22 (by decide)
                  refine sf_35 (φ := (hf_up (hf_up φ 1 6 (φ 1 4)) 1 7 (φ 2 ((φ 1 4).toNat)))) i30 (by omega) (by omega) (fun z71 hp71 hE71 => ⟨rfl, rfl, z71, rfl, ?_⟩)
                  have e71 := e69a.trans (bnp_e hE71)
                  refine ⟨by unfold hi; omega, fun q72 => ?_, fun q72 => ?_⟩
                  · skip
                    have e72a := e71.trans (if_pos q72)
                    have i31 : Inv (hf_up (hf_up (hf_up φ 1 6 (φ 1 4)) 1 7 (φ 2 ((φ 1 4).toNat))) 1 5 1) := iv_up (lo := 0) (u := 5) i30 (by decide +kernel) (by omega) (by omega)
                    have r31 : Fr [2004, 2005, 2006, 2007, 2008] φ (hf_up (hf_up (hf_up φ 1 6 (φ 1 4)) 1 7 (φ 2 ((φ 1 4).toNat))) 1 5 1) := fr_up r30 (by decide)
                    have i32 : Inv (hf_up (hf_up (hf_up (hf_up φ 1 6 (φ 1 4)) 1 7 (φ 2 ((φ 1 4).toNat))) 1 5 1) 1 4 ((φ 1 4) + 1)) := iv_up (lo := 0) (u := 940) i31 (by decide +kernel) (by omega) (by omega)
                    have r32 : Fr [2004, 2005, 2006, 2007, 2008] φ (hf_up (hf_up (hf_up (hf_up φ 1 6 (φ 1 4)) 1 7 (φ 2 ((φ 1 4).toNat))) 1 5 1) 1 4 ((φ 1 4) + 1)) := fr_up r31 (by decide)
                    exact hQ (hf_up (hf_up (hf_up (hf_up φ 1 6 (φ 1 4)) 1 7 (φ 2 ((φ 1 4).toNat))) 1 5 1) 1 4 ((φ 1 4) + 1)) i32 r32 e72a
                  · skip
                    have e72b := e71.trans (if_neg q72)
                    have i33 : Inv (hf_up (hf_up (hf_up φ 1 6 (φ 1 4)) 1 7 (φ 2 ((φ 1 4).toNat))) 1 5 5) := iv_up (lo := 0) (u := 5) i30 (by decide +kernel) (by omega) (by omega)
                    have r33 : Fr [2004, 2005, 2006, 2007, 2008] φ (hf_up (hf_up (hf_up φ 1 6 (φ 1 4)) 1 7 (φ 2 ((φ 1 4).toNat))) 1 5 5) := fr_up r30 (by decide)
                    have i34 : Inv (hf_up (hf_up (hf_up (hf_up φ 1 6 (φ 1 4)) 1 7 (φ 2 ((φ 1 4).toNat))) 1 5 5) 1 4 ((φ 1 4) + 1)) := iv_up (lo := 0) (u := 940) i33 (by decide +kernel) (by omega) (by omega)
                    have r34 : Fr [2004, 2005, 2006, 2007, 2008] φ (hf_up (hf_up (hf_up (hf_up φ 1 6 (φ 1 4)) 1 7 (φ 2 ((φ 1 4).toNat))) 1 5 5) 1 4 ((φ 1 4) + 1)) := fr_up r33 (by decide)
                    exact hQ (hf_up (hf_up (hf_up (hf_up φ 1 6 (φ 1 4)) 1 7 (φ 2 ((φ 1 4).toNat))) 1 5 5) 1 4 ((φ 1 4) + 1)) i34 r34 e72b
                · skip
                  have e69b := e68.trans (if_neg q69)
                  refine sf_33_1 (φ := (hf_up φ 1 6 (φ 1 4))) i22  (fun ψ75 hI75 hF75 hE75 => ⟨rfl, rfl, ?_⟩)
                  have hG75 : Fr [2004, 2005, 2006, 2007, 2008] φ ψ75 := fr_tr r22 hF75 (by decide)
                  have e75 := e69b.trans (bnv_e hE75)
                  exact hQ ψ75 hI75 hG75 e75
            · skip
              have e61b := e60a.trans (if_neg q61)
              have i35 : Inv (hf_up (hf_up φ 1 6 (φ 1 4)) 1 5 0) := iv_up (lo := 0) (u := 5) i22 (by decide +kernel) (by omega) (by omega)
              have r35 : Fr [2004, 2005, 2006, 2007, 2008] φ (hf_up (hf_up φ 1 6 (φ 1 4)) 1 5 0) := fr_up r22 (by decide)
              exact hQ (hf_up (hf_up φ 1 6 (φ 1 4)) 1 5 0) i35 r35 e61b
          · skip
            have e60b := e42b.trans (if_neg q60)
            have i36 : Inv (hf_up (hf_up φ 1 6 (φ 1 4)) 1 6 (φ 1 3)) := iv_up (lo := 0) (u := 940) i22 (by decide +kernel) (by omega) (by omega)
            have r36 : Fr [2004, 2005, 2006, 2007, 2008] φ (hf_up (hf_up φ 1 6 (φ 1 4)) 1 6 (φ 1 3)) := fr_up r22 (by decide)
            have i37 : Inv (hf_up (hf_up (hf_up φ 1 6 (φ 1 4)) 1 6 (φ 1 3)) 1 5 1) := iv_up (lo := 0) (u := 5) i36 (by decide +kernel) (by omega) (by omega)
            have r37 : Fr [2004, 2005, 2006, 2007, 2008] φ (hf_up (hf_up (hf_up φ 1 6 (φ 1 4)) 1 6 (φ 1 3)) 1 5 1) := fr_up r36 (by decide)
            exact hQ (hf_up (hf_up (hf_up φ 1 6 (φ 1 4)) 1 6 (φ 1 3)) 1 5 1) i37 r37 e60b
      · skip
        have e41b := e40.trans (if_neg q41)
        have i38 : Inv (hf_up φ 1 4 ((φ 1 4) + 1)) := iv_up (lo := 0) (u := 940) hI (by decide +kernel) (by omega) (by omega)
        have r38 : Fr [2004, 2005, 2006, 2007, 2008] φ (hf_up φ 1 4 ((φ 1 4) + 1)) := fr_up (fr_rf) (by decide)
        have f39 : (hf_up φ 1 4 ((φ 1 4) + 1)) 1 4 = (φ 1 4) + 1 := hf_up_eq
        exact ih (hf_up φ 1 4 ((φ 1 4) + 1)) L  g0 i38 (by omega)  (fun χ hIχ hFχ hEχ => hQ χ hIχ (fr_tr r38 hFχ (by decide)) (e41b.trans hEχ))
theorem sf_29_1 {sc : List Int} {d : Nat} {φ : hf_F} {x : Nat} {Q : Option jm_V → hf_F → Nat → Prop}  (hI : Inv φ)  (hQ : ∀ ψ : hf_F, Inv ψ → Fr [2004, 2005, 2006, 2007, 2008] φ ψ → F_Reader_advance_1 φ = ψ → Q none ψ x) : hw sc (d + 2) 29 0 [(0, (2, 1))] [] φ x Q := by
  have e : F_Reader_advance_1 φ = F_Reader_advance_1_l0 ((940 - (hf_up φ 1 4 ((φ 1 4) + 1)) 1 4 : Int).toNat + 1 + 1) φ := rfl
  refine sf_29_1_l0 ((940 - (hf_up φ 1 4 ((φ 1 4) + 1)) 1 4 : Int).toNat + 1 + 1) φ [(0, (2, 1))] rfl hI ?_ (fun ψ h1 h2 h4 => hQ ψ h1 h2 (e.trans h4))
  show 940 - φ 1 4 < (((940 - (φ 1 4 + 1) : Int).toNat + 1 + 1 : Nat) : Int)
  omega
theorem sf_28_1_v {sc : List Int} {d : Nat} {φ : hf_F} {x : Nat} {Q : Option jm_V → hf_F → Nat → Prop} {v1 : Int}
    (H : hw sc (d + 2) 29 0 [(0, (2, 1))] [] (hf_up (hf_up (hf_up (hf_up φ 1 3 v1) 1 4 0) 1 9 0) 1 10 0) x (fun r ψ1 y1 => y1 = x ∧ (r = none ∧ (Q none ψ1 x)))) :
    hw sc (d + 3) 28 0 [(0, (2, 1)), (1, (0, v1))] [] φ x Q := by
  refine hw_ald (b := 0) (e := 0) (by decide +kernel) rfl (by decide) ?_
  refine hw_ld (b := 1) (e := 0) (by decide +kernel) rfl ?_
  refine hr_pi (b := 1) (e := 3) 1 rfl (by decide +kernel) ?_
  refine hw_ald (b := 0) (e := 0) (by decide +kernel) rfl (by decide) ?_
  refine hw_k (c := 0) (b := 0) (e := 1) (by decide +kernel) ?_
  refine hr_pi (b := 1) (e := 4) 1 rfl (by decide +kernel) ?_
  refine hw_ald (b := 0) (e := 0) (by decide +kernel) rfl (by decide) ?_
  refine hw_k (c := 0) (b := 0) (e := 1) (by decide +kernel) ?_
  refine hr_pi (b := 1) (e := 9) 1 rfl (by decide +kernel) ?_
  refine hw_ald (b := 0) (e := 0) (by decide +kernel) rfl (by decide) ?_
  refine hw_k (c := 0) (b := 0) (e := 1) (by decide +kernel) ?_
  refine hr_pi (b := 1) (e := 10) 1 rfl (by decide +kernel) ?_
  refine hw_ald (b := 0) (e := 0) (by decide +kernel) rfl (by decide) ?_
  refine hr_call (a0 := 11) (b := 29) (e := 1) (nl := 1) (As := []) (R := []) 1 rfl (by decide +kernel) rfl rfl (Nat.le_of_ble_eq_true rfl) (Nat.le_of_ble_eq_true rfl) ?_
  refine hw_mono H ?_
  rintro r ψ1 y1 ⟨hyx, hr, H⟩
  subst hyx
  subst hr
  refine ⟨hnen, ?_⟩
  show hw sc (d + 3) 28 24 [(0, (2, 1)), (1, (0, v1))] [] ψ1 y1 Q
  exact hw_vret (a0 := 0) (e := 0) (by decide +kernel) H
theorem sf_28_1 {sc : List Int} {d : Nat} {φ : hf_F} {x : Nat} {Q : Option jm_V → hf_F → Nat → Prop} {v1 : Int} (hI : Inv φ) (h1a : 0 ≤ v1) (h1b : v1 ≤ 940) (hQ : ∀ ψ : hf_F, Inv ψ → Fr [2003, 2004, 2005, 2006, 2007, 2008, 2009, 2010] φ ψ → F_Reader_begin_1 φ v1 = ψ → Q none ψ x) : hw sc (d + 3) 28 0 [(0, (2, 1)), (1, (0, v1))] [] φ x Q := by
  apply sf_28_1_v
  have e0 : F_Reader_begin_1 φ v1 = _ := rfl
  have i1 : Inv (hf_up φ 1 3 v1) := iv_up (lo := 0) (u := 940) hI (by decide +kernel) (by omega) (by omega)
  have r1 : Fr [2003, 2004, 2005, 2006, 2007, 2008, 2009, 2010] φ (hf_up φ 1 3 v1) := fr_up (fr_rf) (by decide)
  have i2 : Inv (hf_up (hf_up φ 1 3 v1) 1 4 0) := iv_up (lo := 0) (u := 940) i1 (by decide +kernel) (by omega) (by omega)
  have r2 : Fr [2003, 2004, 2005, 2006, 2007, 2008, 2009, 2010] φ (hf_up (hf_up φ 1 3 v1) 1 4 0) := fr_up r1 (by decide)
  have i3 : Inv (hf_up (hf_up (hf_up φ 1 3 v1) 1 4 0) 1 9 0) := iv_up (lo := 0) (u := 4) i2 (by decide +kernel) (by omega) (by omega)
  have r3 : Fr [2003, 2004, 2005, 2006, 2007, 2008, 2009, 2010] φ (hf_up (hf_up (hf_up φ 1 3 v1) 1 4 0) 1 9 0) := fr_up r2 (by decide)
  have i4 : Inv (hf_up (hf_up (hf_up (hf_up φ 1 3 v1) 1 4 0) 1 9 0) 1 10 0) := iv_up (lo := 0) (u := 940) i3 (by decide +kernel) (by omega) (by omega)
  have r4 : Fr [2003, 2004, 2005, 2006, 2007, 2008, 2009, 2010] φ (hf_up (hf_up (hf_up (hf_up φ 1 3 v1) 1 4 0) 1 9 0) 1 10 0) := fr_up r3 (by decide)
  refine sf_29_1 (φ := (hf_up (hf_up (hf_up (hf_up φ 1 3 v1) 1 4 0) 1 9 0) 1 10 0)) i4  (fun ψ1 hI1 hF1 hE1 => ⟨rfl, rfl, ?_⟩)
  have hG1 : Fr [2003, 2004, 2005, 2006, 2007, 2008, 2009, 2010] φ ψ1 := fr_tr r4 hF1 (by decide)
  have e1 := e0.trans (bnv_e hE1)
  exact hQ ψ1 hI1 hG1 e1
theorem sf_61_1_v {sc : List Int} {d : Nat} {φ : hf_F} {x : Nat} {Q : Option jm_V → hf_F → Nat → Prop} {v1 : Int}
    (H : hi (φ 1 5) ∧ hi 5 ∧ (¬ (φ 1 5) = 5 → Q (some (0, 0)) φ x) ∧ (¬ (¬ (φ 1 5) = 5) → hi (φ 1 7) ∧ hi v1 ∧ (¬ (φ 1 7) = v1 → Q (some (0, 0)) φ x) ∧ (¬ (¬ (φ 1 7) = v1) → Q (some (0, 1)) φ x))) :
    hw sc d 61 0 [(0, (2, 1)), (1, (0, v1))] [] φ x Q := by
  refine hw_ald (b := 0) (e := 0) (by decide +kernel) rfl (by decide) ?_
  refine hr_gi (w := φ 1 5) (b := 1) (e := 5) 1 rfl (by decide +kernel) rfl ?_
  refine hw_k (c := 5) (b := 0) (e := 1) (by decide +kernel) ?_
  obtain ⟨hz1, hy1, ht1, hf1⟩ := H
  refine hw_if2 (a0 := 0) (b := 1) (e := 20) (by decide +kernel) hz1 hy1 (fun q => ?_) (fun q => ?_)
  · have H := ht1 q
    refine hw_k (c := 0) (b := 0) (e := 1) (by decide +kernel) ?_
    exact hw_ret (a0 := 0) (e := 1) (by decide +kernel) (Or.inr ⟨rfl, by decide⟩) H
  · have H := hf1 q
    refine hw_ald (b := 0) (e := 0) (by decide +kernel) rfl (by decide) ?_
    refine hr_gi (w := φ 1 7) (b := 1) (e := 7) 1 rfl (by decide +kernel) rfl ?_
    refine hw_ld (b := 1) (e := 0) (by decide +kernel) rfl ?_
    obtain ⟨hz3, hy3, ht3, hf3⟩ := H
    refine hw_if2 (a0 := 0) (b := 1) (e := 20) (by decide +kernel) hz3 hy3 (fun q => ?_) (fun q => ?_)
    · have H := ht3 q
      refine hw_k (c := 0) (b := 0) (e := 1) (by decide +kernel) ?_
      exact hw_ret (a0 := 0) (e := 1) (by decide +kernel) (Or.inr ⟨rfl, by decide⟩) H
    · have H := hf3 q
      refine hw_k (c := 1) (b := 0) (e := 1) (by decide +kernel) ?_
      refine hw_goto (a0 := 0) (b := 0) (e := 21) (by decide +kernel) ?_
      exact hw_ret (a0 := 0) (e := 1) (by decide +kernel) (Or.inr ⟨rfl, by decide⟩) H
theorem sf_61_1 {sc : List Int} {d : Nat} {φ : hf_F} {x : Nat} {Q : Option jm_V → hf_F → Nat → Prop} {v1 : Int} (hI : Inv φ) (h1a : 0 ≤ v1) (h1b : v1 ≤ 127) (hQ : ∀ (r : Int), 0 ≤ r ∧ r ≤ 1 ∧ (r = 1 → φ 1 7 = v1) → F_Reader_isSignOf_1 φ v1 = r → Q (some (0, r)) φ x) : hw sc d 61 0 [(0, (2, 1)), (1, (0, v1))] [] φ x Q := by
  apply sf_61_1_v
  have e0 : F_Reader_isSignOf_1 φ v1 = _ := rfl
  have f1 := iv_at (a := 1) (k := 5) (lo := 0) (u := 5) hI (by decide +kernel)
  refine ⟨by unfold hi; omega, by unfold hi; omega, fun q1 => ?_, fun q1 => ?_⟩
  · skip
    have e1a := e0.trans (if_pos q1)
    have f2 := iv_at (a := 1) (k := 7) (lo := (-128 : Int)) (u := 999) hI (by decide +kernel)
    exact hQ 0 ⟨by omega, by omega, by omega⟩ e1a
  · skip
    have e1b := e0.trans (if_neg q1)
    have f3 := iv_at (a := 1) (k := 7) (lo := (-128 : Int)) (u := 999) hI (by decide +kernel)
    refine ⟨by unfold hi; omega, by unfold hi; omega, fun q3 => ?_, fun q3 => ?_⟩
    · skip
      have e3a := e1b.trans (if_pos q3)
      exact hQ 0 ⟨by omega, by omega, by omega⟩ e3a
    · skip
      have e3b := e1b.trans (if_neg q3)
      exact hQ 1 ⟨by omega, by omega, by omega⟩ e3b
theorem sf_60_1_v {sc : List Int} {d : Nat} {φ : hf_F} {x : Nat} {Q : Option jm_V → hf_F → Nat → Prop} {v1 : Int}
    (H : hw sc (d + 2) 61 0 [(0, (2, 1)), (1, (0, v1))] [] φ x (fun r ψ1 y1 => y1 = x ∧ φ = ψ1 ∧ (∃ z1 : Int, r = some (0, z1) ∧ (hi z1 ∧ (¬ z1 = 0 → hw sc (d + 2) 29 0 [(0, (2, 1))] [] φ x (fun r ψ3 y3 => y3 = x ∧ (r = none ∧ (Q (some (0, 1)) ψ3 x)))) ∧ (¬ (¬ z1 = 0) → hw sc (d + 2) 37 0 [(0, (2, 1)), (1, (0, 1))] [] φ x (fun r ψ5 y5 => y5 = x ∧ (∃ z5 : Int, r = some (0, z5) ∧ ((z5 = 0 ∨ z5 = 1) ∧ Q (some (0, z5)) ψ5 x)))))))) :
    hw sc (d + 3) 60 0 [(0, (2, 1)), (1, (0, v1))] [] φ x Q := by
  refine hw_ald (b := 0) (e := 0) (by decide +kernel) rfl (by decide) ?_
  refine hw_ld (b := 1) (e := 0) (by decide +kernel) rfl ?_
  refine hr_call (a0 := 11) (b := 61) (e := 2) (nl := 2) (As := [(0, v1)]) (R := []) 1 rfl (by decide +kernel) rfl rfl (Nat.le_of_ble_eq_true rfl) (Nat.le_of_ble_eq_true rfl) ?_
  refine hw_mono H ?_
  rintro r ψ1 y1 ⟨hyx, hψx, z1, hr, H⟩
  subst hyx
  subst hψx
  subst hr
  refine ⟨hne0, ?_⟩
  show hw sc (d + 3) 60 5 [(0, (2, 1)), (1, (0, v1))] [(0, z1)] φ y1 Q
  obtain ⟨hz2, ht2, hf2⟩ := H
  refine hw_if (a0 := 0) (b := 1) (e := 14) (by decide +kernel) hz2 (fun q => ?_) (fun q => ?_)
  · have H := ht2 q
    refine hw_ald (b := 0) (e := 0) (by decide +kernel) rfl (by decide) ?_
    refine hr_call (a0 := 11) (b := 29) (e := 1) (nl := 1) (As := []) (R := []) 1 rfl (by decide +kernel) rfl rfl (Nat.le_of_ble_eq_true rfl) (Nat.le_of_ble_eq_true rfl) ?_
    refine hw_mono H ?_
    rintro r ψ3 y3 ⟨hyx, hr, H⟩
    subst hyx
    subst hr
    refine ⟨hnen, ?_⟩
    show hw sc (d + 3) 60 18 [(0, (2, 1)), (1, (0, v1))] [] ψ3 y3 Q
    refine hw_k (c := 1) (b := 0) (e := 1) (by decide +kernel) ?_
    exact hw_ret (a0 := 0) (e := 1) (by decide +kernel) (Or.inr ⟨rfl, by decide⟩) H
  · have H := hf2 q
    refine hw_ald (b := 0) (e := 0) (by decide +kernel) rfl (by decide) ?_
    refine hw_k (c := 1) (b := 0) (e := 1) (by decide +kernel) ?_
    refine hr_call (a0 := 11) (b := 37) (e := 2) (nl := 2) (As := [(0, 1)]) (R := []) 1 rfl (by decide +kernel) rfl rfl (Nat.le_of_ble_eq_true rfl) (Nat.le_of_ble_eq_true rfl) ?_
    refine hw_mono H ?_
    rintro r ψ5 y5 ⟨hyx, z5, hr, H⟩
    subst hyx
    subst hr
    refine ⟨hne0, ?_⟩
    show hw sc (d + 3) 60 13 [(0, (2, 1)), (1, (0, v1))] [(0, z5)] ψ5 y5 Q
    exact hw_ret (a0 := 0) (e := 1) (by decide +kernel) (Or.inr ⟨rfl, H.1⟩) H.2
theorem sf_60_1 {sc : List Int} {d : Nat} {φ : hf_F} {x : Nat} {Q : Option jm_V → hf_F → Nat → Prop} {v1 : Int} (hI : Inv φ) (h1a : 0 ≤ v1) (h1b : v1 ≤ 127) (hQ : ∀ (r : Int) (ψ : hf_F), Inv ψ → Fr [2004, 2005, 2006, 2007, 2008, 2009, 2010] φ ψ → 0 ≤ r ∧ r ≤ 1 → F_Reader_takeSign_1 φ v1 = (r, ψ) → Q (some (0, r)) ψ x) : hw sc (d + 3) 60 0 [(0, (2, 1)), (1, (0, v1))] [] φ x Q := by
  apply sf_60_1_v
  have e0 : F_Reader_takeSign_1 φ v1 = _ := rfl
  refine sf_61_1 (φ := φ) hI (by omega) (by omega) (fun z1 hp1 hE1 => ⟨rfl, rfl, z1, rfl, ?_⟩)
  have e1 := e0.trans (bnp_e hE1)
  have f1 := iv_at (a := 1) (k := 7) (lo := (-128 : Int)) (u := 999) hI (by decide +kernel)
  refine ⟨by unfold hi; omega, fun q2 => ?_, fun q2 => ?_⟩
  · skip
    have e2a := e1.trans (if_pos q2)
    refine sf_29_1 (φ := φ) hI  (fun ψ3 hI3 hF3 hE3 => ⟨rfl, rfl, ?_⟩)
    have hG3 : Fr [2004, 2005, 2006, 2007, 2008, 2009, 2010] φ ψ3 := fr_tr (fr_rf) hF3 (by decide)
    have e3 := e2a.trans (bnv_e hE3)
    exact hQ 1 ψ3 hI3 hG3 ⟨by omega, by omega⟩ e3
  · skip
    have e2b := e1.trans (if_neg q2)
    refine sf_37_1 (φ := φ) hI (by omega) (by omega) (fun z5 ψ5 hI5 hF5 hp5 hE5 => ⟨rfl, z5, rfl, ?_⟩)
    have hG5 : Fr [2004, 2005, 2006, 2007, 2008, 2009, 2010] φ ψ5 := fr_tr (fr_rf) hF5 (by decide)
    have e5 := e2b.trans (bnd_e hE5)
    refine ⟨by omega, ?_⟩
    exact hQ z5 ψ5 hI5 hG5 ⟨by omega, by omega⟩ e5
theorem sf_43_1_v {sc : List Int} {d : Nat} {φ : hf_F} {x : Nat} {Q : Option jm_V → hf_F → Nat → Prop} {v1 v2 : Int}
    (H : hi (φ 1 5) ∧ hi 4 ∧ ((φ 1 5) = 4 → hi (φ 1 7) ∧ hi v1 ∧ ((φ 1 7) < v1 → hw sc d 37 0 [(0, (2, 1)), (1, (0, 2))] [] φ x (fun r ψ3 y3 => y3 = x ∧ (∃ z3 : Int, r = some (0, z3) ∧ (Q (some (0, (-1 : Int))) ψ3 x)))) ∧ (¬ (φ 1 7) < v1 → hi (φ 1 7) ∧ hi v2 ∧ ((φ 1 7) ≤ v2 → Q (some (0, φ 1 7)) φ x) ∧ (¬ (φ 1 7) ≤ v2 → hw sc d 37 0 [(0, (2, 1)), (1, (0, 2))] [] φ x (fun r ψ7 y7 => y7 = x ∧ (∃ z7 : Int, r = some (0, z7) ∧ (Q (some (0, (-1 : Int))) ψ7 x)))))) ∧ (¬ (φ 1 5) = 4 → hw sc d 37 0 [(0, (2, 1)), (1, (0, 1))] [] φ x (fun r ψ9 y9 => y9 = x ∧ (∃ z9 : Int, r = some (0, z9) ∧ (Q (some (0, (-1 : Int))) ψ9 x))))) :
    hw sc (d + 1) 43 0 [(0, (2, 1)), (1, (0, v1)), (2, (0, v2))] [] φ x Q := by
  refine hw_ald (b := 0) (e := 0) (by decide +kernel) rfl (by decide) ?_
  refine hr_gi (w := φ 1 5) (b := 1) (e := 5) 1 rfl (by decide +kernel) rfl ?_
  refine hw_k (c := 4) (b := 0) (e := 1) (by decide +kernel) ?_
  obtain ⟨hz1, hy1, ht1, hf1⟩ := H
  refine hw_if2 (a0 := 0) (b := 0) (e := 16) (by decide +kernel) hz1 hy1 (fun q => ?_) (fun q => ?_)
  · have H := ht1 q
    refine hw_ald (b := 0) (e := 0) (by decide +kernel) rfl (by decide) ?_
    refine hr_gi (w := φ 1 7) (b := 1) (e := 7) 1 rfl (by decide +kernel) rfl ?_
    refine hw_ld (b := 1) (e := 0) (by decide +kernel) rfl ?_
    obtain ⟨hz2, hy2, ht2, hf2⟩ := H
    refine hw_if2 (a0 := 0) (b := 2) (e := 32) (by decide +kernel) hz2 hy2 (fun q => ?_) (fun q => ?_)
    · have H := ht2 q
      refine hw_ald (b := 0) (e := 0) (by decide +kernel) rfl (by decide) ?_
      refine hw_k (c := 2) (b := 0) (e := 1) (by decide +kernel) ?_
      refine hr_call (a0 := 11) (b := 37) (e := 2) (nl := 2) (As := [(0, 2)]) (R := []) 1 rfl (by decide +kernel) rfl rfl (Nat.le_of_ble_eq_true rfl) (Nat.le_of_ble_eq_true rfl) ?_
      refine hw_mono H ?_
      rintro r ψ3 y3 ⟨hyx, z3, hr, H⟩
      subst hyx
      subst hr
      refine ⟨hne0, ?_⟩
      show hw sc (d + 1) 43 37 [(0, (2, 1)), (1, (0, v1)), (2, (0, v2))] [(0, z3)] ψ3 y3 Q
      refine hw_pop (a0 := 0) (e := 0) (by decide +kernel) (by decide) ?_
      refine hw_k (c := (-1 : Int)) (b := 0) (e := 1) (by decide +kernel) ?_
      exact hw_ret (a0 := 0) (e := 0) (by decide +kernel) (Or.inl rfl) H
    · have H := hf2 q
      refine hw_ald (b := 0) (e := 0) (by decide +kernel) rfl (by decide) ?_
      refine hr_gi (w := φ 1 7) (b := 1) (e := 7) 1 rfl (by decide +kernel) rfl ?_
      refine hw_ld (b := 2) (e := 0) (by decide +kernel) rfl ?_
      obtain ⟨hz5, hy5, ht5, hf5⟩ := H
      refine hw_if2 (a0 := 0) (b := 5) (e := 40) (by decide +kernel) hz5 hy5 (fun q => ?_) (fun q => ?_)
      · have H := ht5 q
        refine hw_ald (b := 0) (e := 0) (by decide +kernel) rfl (by decide) ?_
        refine hr_gi (w := φ 1 7) (b := 1) (e := 7) 1 rfl (by decide +kernel) rfl ?_
        exact hw_ret (a0 := 0) (e := 0) (by decide +kernel) (Or.inl rfl) H
      · have H := hf5 q
        refine hw_ald (b := 0) (e := 0) (by decide +kernel) rfl (by decide) ?_
        refine hw_k (c := 2) (b := 0) (e := 1) (by decide +kernel) ?_
        refine hr_call (a0 := 11) (b := 37) (e := 2) (nl := 2) (As := [(0, 2)]) (R := []) 1 rfl (by decide +kernel) rfl rfl (Nat.le_of_ble_eq_true rfl) (Nat.le_of_ble_eq_true rfl) ?_
        refine hw_mono H ?_
        rintro r ψ7 y7 ⟨hyx, z7, hr, H⟩
        subst hyx
        subst hr
        refine ⟨hne0, ?_⟩
        show hw sc (d + 1) 43 37 [(0, (2, 1)), (1, (0, v1)), (2, (0, v2))] [(0, z7)] ψ7 y7 Q
        refine hw_pop (a0 := 0) (e := 0) (by decide +kernel) (by decide) ?_
        refine hw_k (c := (-1 : Int)) (b := 0) (e := 1) (by decide +kernel) ?_
        exact hw_ret (a0 := 0) (e := 0) (by decide +kernel) (Or.inl rfl) H
  · have H := hf1 q
    refine hw_ald (b := 0) (e := 0) (by decide +kernel) rfl (by decide) ?_
    refine hw_k (c := 1) (b := 0) (e := 1) (by decide +kernel) ?_
    refine hr_call (a0 := 11) (b := 37) (e := 2) (nl := 2) (As := [(0, 1)]) (R := []) 1 rfl (by decide +kernel) rfl rfl (Nat.le_of_ble_eq_true rfl) (Nat.le_of_ble_eq_true rfl) ?_
    refine hw_mono H ?_
    rintro r ψ9 y9 ⟨hyx, z9, hr, H⟩
    subst hyx
    subst hr
    refine ⟨hne0, ?_⟩
    show hw sc (d + 1) 43 13 [(0, (2, 1)), (1, (0, v1)), (2, (0, v2))] [(0, z9)] ψ9 y9 Q
    refine hw_pop (a0 := 0) (e := 0) (by decide +kernel) (by decide) ?_
    refine hw_k (c := (-1 : Int)) (b := 0) (e := 1) (by decide +kernel) ?_
    exact hw_ret (a0 := 0) (e := 0) (by decide +kernel) (Or.inl rfl) H
theorem sf_43_1 {sc : List Int} {d : Nat} {φ : hf_F} {x : Nat} {Q : Option jm_V → hf_F → Nat → Prop} {v1 v2 : Int} (hI : Inv φ) (h1a : 0 ≤ v1) (h1b : v1 ≤ 2) (h2a : (-1 : Int) ≤ v2) (h2b : v2 ≤ 999) (hQ : ∀ (r : Int) (ψ : hf_F), Inv ψ → Fr [2009, 2010] φ ψ → (-1 : Int) ≤ r ∧ r ≤ 999 ∧ (r = -1 ∨ (v1 ≤ r ∧ r ≤ v2)) → F_Reader_peekNumber_1 φ v1 v2 = (r, ψ) → Q (some (0, r)) ψ x) : hw sc (d + 1) 43 0 [(0, (2, 1)), (1, (0, v1)), (2, (0, v2))] [] φ x Q := by
  apply sf_43_1_v
  have e0 : F_Reader_peekNumber_1 φ v1 v2 = _ := rfl
  have f1 := iv_at (a := 1) (k := 5) (lo := 0) (u := 5) hI (by decide +kernel)
  refine ⟨by unfold hi; omega, by unfold hi; omega, fun q1 => ?_, fun q1 => ?_⟩
  · skip
    have e1a := e0.trans (if_pos q1)
    have f2 := iv_at (a := 1) (k := 7) (lo := (-128 : Int)) (u := 999) hI (by decide +kernel)
    refine ⟨by unfold hi; omega, by unfold hi; omega, fun q2 => ?_, fun q2 => ?_⟩
    · skip
      have e2a := e1a.trans (if_pos q2)
      refine sf_37_1 (φ := φ) hI (by omega) (by omega) (fun z3 ψ3 hI3 hF3 hp3 hE3 => ⟨rfl, z3, rfl, ?_⟩)
      have hG3 : Fr [2009, 2010] φ ψ3 := fr_tr (fr_rf) hF3 (by decide)
      have e3 := e2a.trans (bnd_e hE3)
      exact hQ (-1 : Int) ψ3 hI3 hG3 ⟨by omega, by omega, by omega⟩ e3
    · skip
      have e2b := e1a.trans (if_neg q2)
      refine ⟨by unfold hi; omega, by unfold hi; omega, fun q5 => ?_, fun q5 => ?_⟩
      · skip
        have e5a := e2b.trans (if_pos q5)
        exact hQ (φ 1 7) φ hI (fr_rf) ⟨by omega, by omega, by omega⟩ e5a
      · skip
        have e5b := e2b.trans (if_neg q5)
        refine sf_37_1 (φ := φ) hI (by omega) (by omega) (fun z7 ψ7 hI7 hF7 hp7 hE7 => ⟨rfl, z7, rfl, ?_⟩)
        have hG7 : Fr [2009, 2010] φ ψ7 := fr_tr (fr_rf) hF7 (by decide)
        have e7 := e5b.trans (bnd_e hE7)
        exact hQ (-1 : Int) ψ7 hI7 hG7 ⟨by omega, by omega, by omega⟩ e7
  · skip
    have e1b := e0.trans (if_neg q1)
    refine sf_37_1 (φ := φ) hI (by omega) (by omega) (fun z9 ψ9 hI9 hF9 hp9 hE9 => ⟨rfl, z9, rfl, ?_⟩)
    have hG9 : Fr [2009, 2010] φ ψ9 := fr_tr (fr_rf) hF9 (by decide)
    have e9 := e1b.trans (bnd_e hE9)
    exact hQ (-1 : Int) ψ9 hI9 hG9 ⟨by omega, by omega, by omega⟩ e9
theorem sf_40_31_k1_0_v {sc : List Int} {d : Nat} {φ : hf_F} {x : Nat} {Q : Option jm_V → hf_F → Nat → Prop} 
    (H : hi (φ 32 0) ∧ hi 3 ∧ ((φ 32 0) < 3 → Q (some (0, 0)) φ x) ∧ (¬ (φ 32 0) < 3 → Q (some (0, 1)) φ x)) :
    hw sc d 40 0 [(0, (2, 31)), (1, (0, 0))] [] φ x Q := by
  refine hw_ald (b := 0) (e := 0) (by decide +kernel) rfl (by decide) ?_
  refine hr_gr (w := 32) (b := 3) (e := 0) 31 rfl (by decide +kernel) ?_
  refine hw_ld (b := 1) (e := 0) (by decide +kernel) rfl ?_
  refine hr_al (b := 0) (a0 := 0) (e := 0) (n := 5) (w := φ 32 0) 32 rfl (by decide +kernel) (by decide) (by decide) (by decide) rfl ?_
  refine hw_gm (a0 := 0) (e := 0) (by decide +kernel) ?_
  refine hw_ld (b := 1) (e := 0) (by decide +kernel) rfl ?_
  refine hw_mo (n := 0) (w := 3) (a0 := 0) (e := 0) (by decide +kernel) (by decide +kernel) (by decide +kernel) ?_
  obtain ⟨hz1, hy1, ht1, hf1⟩ := H
  refine hw_if2 (a0 := 0) (b := 2) (e := 18) (by decide +kernel) hz1 hy1 (fun q => ?_) (fun q => ?_)
  · have H := ht1 q
    refine hw_k (c := 0) (b := 0) (e := 1) (by decide +kernel) ?_
    exact hw_ret (a0 := 0) (e := 1) (by decide +kernel) (Or.inr ⟨rfl, by decide⟩) H
  · have H := hf1 q
    refine hw_k (c := 1) (b := 0) (e := 1) (by decide +kernel) ?_
    refine hw_goto (a0 := 0) (b := 0) (e := 19) (by decide +kernel) ?_
    exact hw_ret (a0 := 0) (e := 1) (by decide +kernel) (Or.inr ⟨rfl, by decide⟩) H
theorem sf_40_31_k1_0 {sc : List Int} {d : Nat} {φ : hf_F} {x : Nat} {Q : Option jm_V → hf_F → Nat → Prop}  (hI : Inv φ)  (hQ : ∀ (r : Int), 0 ≤ r ∧ r ≤ 1 ∧ (r = 0 → φ 32 0 ≤ 2) → F_Plan_isFull_31_k1_0 φ = r → Q (some (0, r)) φ x) : hw sc d 40 0 [(0, (2, 31)), (1, (0, 0))] [] φ x Q := by
  apply sf_40_31_k1_0_v
  have e0 : F_Plan_isFull_31_k1_0 φ = _ := rfl
  have f1 := iv_at (a := 32) (k := 0) (lo := 0) (u := 3) hI (by decide +kernel)
  refine ⟨by unfold hi; omega, by unfold hi; omega, fun q1 => ?_, fun q1 => ?_⟩
  · skip
    have e1a := e0.trans (if_pos q1)
    exact hQ 0 ⟨by omega, by omega, by omega⟩ e1a
  · skip
    have e1b := e0.trans (if_neg q1)
    exact hQ 1 ⟨by omega, by omega, by omega⟩ e1b
theorem sf_39_182_k1_0_v {sc : List Int} {d : Nat} {φ : hf_F} {x : Nat} {Q : Option jm_V → hf_F → Nat → Prop} 
    (H : hw sc (d + 2) 40 0 [(0, (2, 31)), (1, (0, 0))] [] φ x (fun r ψ1 y1 => y1 = x ∧ φ = ψ1 ∧ (∃ z1 : Int, r = some (0, z1) ∧ (hi z1 ∧ (z1 = 0 → hw sc (d + 2) 29 0 [(0, (2, 1))] [] φ x (fun r ψ3 y3 => y3 = x ∧ (r = none ∧ (hi (ψ3 1 5) ∧ hi 2 ∧ ((ψ3 1 5) = 2 → hw sc (d + 2) 41 0 [(0, (2, 31)), (1, (1, ψ3 1 8))] [] ψ3 x (fun r ψ5 y5 => y5 = x ∧ ψ3 = ψ5 ∧ (∃ z5 : Int, r = some (0, z5) ∧ (hi z5 ∧ (z5 = 0 → hw sc (d + 2) 29 0 [(0, (2, 1))] [] ψ3 x (fun r ψ7 y7 => y7 = x ∧ (r = none ∧ (Q (some (1, ψ3 1 8)) ψ7 x)))) ∧ (¬ z5 = 0 → hw sc (d + 2) 37 0 [(0, (2, 1)), (1, (0, 3))] [] ψ3 x (fun r ψ9 y9 => y9 = x ∧ (∃ z9 : Int, r = some (0, z9) ∧ (Q (some (1, 0)) ψ9 x)))))))) ∧ (¬ (ψ3 1 5) = 2 → hw sc (d + 2) 37 0 [(0, (2, 1)), (1, (0, 1))] [] ψ3 x (fun r ψ11 y11 => y11 = x ∧ (∃ z11 : Int, r = some (0, z11) ∧ (Q (some (1, 0)) ψ11 x)))))))) ∧ (¬ z1 = 0 → hw sc (d + 2) 37 0 [(0, (2, 1)), (1, (0, 4))] [] φ x (fun r ψ13 y13 => y13 = x ∧ (∃ z13 : Int, r = some (0, z13) ∧ (Q (some (1, 0)) ψ13 x)))))))) :
    hw sc (d + 3) 39 0 [(0, (2, 182)), (1, (0, 0))] [] φ x Q := by
  refine hw_ald (b := 0) (e := 0) (by decide +kernel) rfl (by decide) ?_
  refine hr_gr (w := 31) (b := 7) (e := 1) 182 rfl (by decide +kernel) ?_
  refine hw_ld (b := 1) (e := 0) (by decide +kernel) rfl ?_
  refine hr_call (a0 := 13) (b := 40) (e := 2) (nl := 2) (As := [(0, 0)]) (R := []) 31 rfl (by decide +kernel) rfl rfl (Nat.le_of_ble_eq_true rfl) (Nat.le_of_ble_eq_true rfl) ?_
  refine hw_mono H ?_
  rintro r ψ1 y1 ⟨hyx, hψx, z1, hr, H⟩
  subst hyx
  subst hψx
  subst hr
  refine ⟨hne0, ?_⟩
  show hw sc (d + 3) 39 8 [(0, (2, 182)), (1, (0, 0))] [(0, z1)] φ y1 Q
  obtain ⟨hz2, ht2, hf2⟩ := H
  refine hw_if (a0 := 0) (b := 0) (e := 22) (by decide +kernel) hz2 (fun q => ?_) (fun q => ?_)
  · have H := ht2 q
    refine hw_ald (b := 0) (e := 0) (by decide +kernel) rfl (by decide) ?_
    refine hr_gr (w := 1) (b := 7) (e := 0) 182 rfl (by decide +kernel) ?_
    refine hr_call (a0 := 11) (b := 29) (e := 1) (nl := 1) (As := []) (R := []) 1 rfl (by decide +kernel) rfl rfl (Nat.le_of_ble_eq_true rfl) (Nat.le_of_ble_eq_true rfl) ?_
    refine hw_mono H ?_
    rintro r ψ3 y3 ⟨hyx, hr, H⟩
    subst hyx
    subst hr
    refine ⟨hnen, ?_⟩
    show hw sc (d + 3) 39 29 [(0, (2, 182)), (1, (0, 0))] [] ψ3 y3 Q
    refine hw_ald (b := 0) (e := 0) (by decide +kernel) rfl (by decide) ?_
    refine hr_gr (w := 1) (b := 7) (e := 0) 182 rfl (by decide +kernel) ?_
    refine hr_gi (w := ψ3 1 5) (b := 1) (e := 5) 1 rfl (by decide +kernel) rfl ?_
    refine hw_k (c := 2) (b := 0) (e := 1) (by decide +kernel) ?_
    obtain ⟨hz4, hy4, ht4, hf4⟩ := H
    refine hw_if2 (a0 := 0) (b := 0) (e := 51) (by decide +kernel) hz4 hy4 (fun q => ?_) (fun q => ?_)
    · have H := ht4 q
      refine hw_ald (b := 0) (e := 0) (by decide +kernel) rfl (by decide) ?_
      refine hr_gr (w := 31) (b := 7) (e := 1) 182 rfl (by decide +kernel) ?_
      refine hw_ald (b := 0) (e := 0) (by decide +kernel) rfl (by decide) ?_
      refine hr_gr (w := 1) (b := 7) (e := 0) 182 rfl (by decide +kernel) ?_
      refine hr_gl (w := ψ3 1 8) (b := 1) (e := 8) 1 rfl (by decide +kernel) rfl ?_
      refine hr_call (a0 := 13) (b := 41) (e := 2) (nl := 4) (As := [(1, ψ3 1 8)]) (R := []) 31 rfl (by decide +kernel) rfl rfl (Nat.le_of_ble_eq_true rfl) (Nat.le_of_ble_eq_true rfl) ?_
      refine hw_mono H ?_
      rintro r ψ5 y5 ⟨hyx, hψx, z5, hr, H⟩
      subst hyx
      subst hψx
      subst hr
      refine ⟨hne0, ?_⟩
      show hw sc (d + 3) 39 65 [(0, (2, 182)), (1, (0, 0))] [(0, z5)] ψ3 y5 Q
      obtain ⟨hz6, ht6, hf6⟩ := H
      refine hw_if (a0 := 0) (b := 0) (e := 79) (by decide +kernel) hz6 (fun q => ?_) (fun q => ?_)
      · have H := ht6 q
        refine hw_ald (b := 0) (e := 0) (by decide +kernel) rfl (by decide) ?_
        refine hr_gr (w := 1) (b := 7) (e := 0) 182 rfl (by decide +kernel) ?_
        refine hr_gl (w := ψ3 1 8) (b := 1) (e := 8) 1 rfl (by decide +kernel) rfl ?_
        refine hw_lst (L' := (jm_st2 [(0, (2, 182)), (1, (0, 0))] 2 (1, ψ3 1 8))) (b := 2) (e := 0) (by decide +kernel) rfl ?_
        refine hw_ald (b := 0) (e := 0) (by decide +kernel) (get_st2 rfl (by decide) (by decide) (fun q => absurd q.1 (by decide))) (by decide) ?_
        refine hr_gr (w := 1) (b := 7) (e := 0) 182 rfl (by decide +kernel) ?_
        refine hr_call (a0 := 11) (b := 29) (e := 1) (nl := 1) (As := []) (R := []) 1 rfl (by decide +kernel) rfl rfl (Nat.le_of_ble_eq_true rfl) (Nat.le_of_ble_eq_true rfl) ?_
        refine hw_mono H ?_
        rintro r ψ7 y7 ⟨hyx, hr, H⟩
        subst hyx
        subst hr
        refine ⟨hnen, ?_⟩
        show hw sc (d + 3) 39 94 (jm_st2 [(0, (2, 182)), (1, (0, 0))] 2 (1, ψ3 1 8)) [] ψ7 y7 Q
        refine hw_lld (b := 2) (e := 0) (by decide +kernel) get_st2e ?_
        exact hw_lret (a0 := 0) (e := 4) (by decide +kernel) H
      · have H := hf6 q
        refine hw_ald (b := 0) (e := 0) (by decide +kernel) rfl (by decide) ?_
        refine hr_gr (w := 1) (b := 7) (e := 0) 182 rfl (by decide +kernel) ?_
        refine hw_k (c := 3) (b := 0) (e := 1) (by decide +kernel) ?_
        refine hr_call (a0 := 11) (b := 37) (e := 2) (nl := 2) (As := [(0, 3)]) (R := []) 1 rfl (by decide +kernel) rfl rfl (Nat.le_of_ble_eq_true rfl) (Nat.le_of_ble_eq_true rfl) ?_
        refine hw_mono H ?_
        rintro r ψ9 y9 ⟨hyx, z9, hr, H⟩
        subst hyx
        subst hr
        refine ⟨hne0, ?_⟩
        show hw sc (d + 3) 39 76 [(0, (2, 182)), (1, (0, 0))] [(0, z9)] ψ9 y9 Q
        refine hw_pop (a0 := 0) (e := 0) (by decide +kernel) (by decide) ?_
        refine hw_lk (c := 0) (b := 0) (e := 1) (by decide +kernel) ?_
        exact hw_lret (a0 := 0) (e := 4) (by decide +kernel) H
    · have H := hf4 q
      refine hw_ald (b := 0) (e := 0) (by decide +kernel) rfl (by decide) ?_
      refine hr_gr (w := 1) (b := 7) (e := 0) 182 rfl (by decide +kernel) ?_
      refine hw_k (c := 1) (b := 0) (e := 1) (by decide +kernel) ?_
      refine hr_call (a0 := 11) (b := 37) (e := 2) (nl := 2) (As := [(0, 1)]) (R := []) 1 rfl (by decide +kernel) rfl rfl (Nat.le_of_ble_eq_true rfl) (Nat.le_of_ble_eq_true rfl) ?_
      refine hw_mono H ?_
      rintro r ψ11 y11 ⟨hyx, z11, hr, H⟩
      subst hyx
      subst hr
      refine ⟨hne0, ?_⟩
      show hw sc (d + 3) 39 48 [(0, (2, 182)), (1, (0, 0))] [(0, z11)] ψ11 y11 Q
      refine hw_pop (a0 := 0) (e := 0) (by decide +kernel) (by decide) ?_
      refine hw_lk (c := 0) (b := 0) (e := 1) (by decide +kernel) ?_
      exact hw_lret (a0 := 0) (e := 4) (by decide +kernel) H
  · have H := hf2 q
    refine hw_ald (b := 0) (e := 0) (by decide +kernel) rfl (by decide) ?_
    refine hr_gr (w := 1) (b := 7) (e := 0) 182 rfl (by decide +kernel) ?_
    refine hw_k (c := 4) (b := 0) (e := 1) (by decide +kernel) ?_
    refine hr_call (a0 := 11) (b := 37) (e := 2) (nl := 2) (As := [(0, 4)]) (R := []) 1 rfl (by decide +kernel) rfl rfl (Nat.le_of_ble_eq_true rfl) (Nat.le_of_ble_eq_true rfl) ?_
    refine hw_mono H ?_
    rintro r ψ13 y13 ⟨hyx, z13, hr, H⟩
    subst hyx
    subst hr
    refine ⟨hne0, ?_⟩
    show hw sc (d + 3) 39 19 [(0, (2, 182)), (1, (0, 0))] [(0, z13)] ψ13 y13 Q
    refine hw_pop (a0 := 0) (e := 0) (by decide +kernel) (by decide) ?_
    refine hw_lk (c := 0) (b := 0) (e := 1) (by decide +kernel) ?_
    exact hw_lret (a0 := 0) (e := 4) (by decide +kernel) H
theorem sf_39_182_k1_0 {sc : List Int} {d : Nat} {φ : hf_F} {x : Nat} {Q : Option jm_V → hf_F → Nat → Prop}  (hI : Inv φ)  (hQ : ∀ (r : Int) (ψ : hf_F), Inv ψ → Fr [2004, 2005, 2006, 2007, 2008, 2009, 2010] φ ψ → True ∧ (¬ r = 0 → φ 32 0 ≤ 2) → F_RideText_readNew_182_k1_0 φ = (r, ψ) → Q (some (1, r)) ψ x) : hw sc (d + 3) 39 0 [(0, (2, 182)), (1, (0, 0))] [] φ x Q := by
  apply sf_39_182_k1_0_v
  have e0 : F_RideText_readNew_182_k1_0 φ = _ := rfl
  refine sf_40_31_k1_0 (φ := φ) hI  (fun z1 hp1 hE1 => ⟨rfl, rfl, z1, rfl, ?_⟩)
  have e1 := e0.trans (bnp_e hE1)
  have f1 := iv_at (a := 32) (k := 0) (lo := 0) (u := 3) hI (by decide +kernel)
  refine ⟨by unfold hi; omega, fun q2 => ?_, fun q2 => ?_⟩
  · skip
    have e2a := e1.trans (if_pos q2)
    refine sf_29_1 (φ := φ) hI  (fun ψ3 hI3 hF3 hE3 => ⟨rfl, rfl, ?_⟩)
    have hG3 : Fr [2004, 2005, 2006, 2007, 2008, 2009, 2010] φ ψ3 := fr_tr (fr_rf) hF3 (by decide)
    have e3 := e2a.trans (bnv_e hE3)
    have f2 := iv_at (a := 1) (k := 5) (lo := 0) (u := 5) hI3 (by decide +kernel)
    refine ⟨by unfold hi; omega, by unfold hi; omega, fun q4 => ?_, fun q4 => ?_⟩
    · skip
      have e4a := e3.trans (if_pos q4)
      refine sf_41_31 (φ := ψ3) hI3  (fun z5 hp5 hE5 => ⟨rfl, rfl, z5, rfl, ?_⟩)
      have e5 := e4a.trans (bnp_e hE5)
      refine ⟨by unfold hi; omega, fun q6 => ?_, fun q6 => ?_⟩
      · skip
        have e6a := e5.trans (if_pos q6)
        refine sf_29_1 (φ := ψ3) hI3  (fun ψ7 hI7 hF7 hE7 => ⟨rfl, rfl, ?_⟩)
        have hG7 : Fr [2004, 2005, 2006, 2007, 2008, 2009, 2010] φ ψ7 := fr_tr hG3 hF7 (by decide)
        have e7 := e6a.trans (bnv_e hE7)
        exact hQ (ψ3 1 8) ψ7 hI7 hG7 ⟨trivial, by omega⟩ e7
      · skip
        have e6b := e5.trans (if_neg q6)
        refine sf_37_1 (φ := ψ3) hI3 (by omega) (by omega) (fun z9 ψ9 hI9 hF9 hp9 hE9 => ⟨rfl, z9, rfl, ?_⟩)
        have hG9 : Fr [2004, 2005, 2006, 2007, 2008, 2009, 2010] φ ψ9 := fr_tr hG3 hF9 (by decide)
        have e9 := e6b.trans (bnd_e hE9)
        exact hQ (0) ψ9 hI9 hG9 ⟨trivial, by omega⟩ e9
    · skip
      have e4b := e3.trans (if_neg q4)
      refine sf_37_1 (φ := ψ3) hI3 (by omega) (by omega) (fun z11 ψ11 hI11 hF11 hp11 hE11 => ⟨rfl, z11, rfl, ?_⟩)
      have hG11 : Fr [2004, 2005, 2006, 2007, 2008, 2009, 2010] φ ψ11 := fr_tr hG3 hF11 (by decide)
      have e11 := e4b.trans (bnd_e hE11)
      exact hQ (0) ψ11 hI11 hG11 ⟨trivial, by omega⟩ e11
  · skip
    have e2b := e1.trans (if_neg q2)
    refine sf_37_1 (φ := φ) hI (by omega) (by omega) (fun z13 ψ13 hI13 hF13 hp13 hE13 => ⟨rfl, z13, rfl, ?_⟩)
    have hG13 : Fr [2004, 2005, 2006, 2007, 2008, 2009, 2010] φ ψ13 := fr_tr (fr_rf) hF13 (by decide)
    have e13 := e2b.trans (bnd_e hE13)
    exact hQ (0) ψ13 hI13 hG13 ⟨trivial, by omega⟩ e13
theorem sf_38_182_v {sc : List Int} {d : Nat} {φ : hf_F} {x : Nat} {Q : Option jm_V → hf_F → Nat → Prop} 
    (H : hw sc (d + 3) 39 0 [(0, (2, 182)), (1, (0, 0))] [] φ x (fun r ψ1 y1 => y1 = x ∧ (∃ z1 : Int, r = some (1, z1) ∧ (hi (jm_cmp z1 0) ∧ (¬ (jm_cmp z1 0) = 0 → hw sc (d + 3) 43 0 [(0, (2, 1)), (1, (0, 2)), (2, (0, 30))] [] ψ1 x (fun r ψ3 y3 => y3 = x ∧ (∃ z3 : Int, r = some (0, z3) ∧ (hi z3 ∧ hi (-1 : Int) ∧ (¬ z3 = (-1 : Int) → hw sc (d + 3) 29 0 [(0, (2, 1))] [] ψ3 x (fun r ψ5 y5 => y5 = x ∧ (r = none ∧ (hw sc (d + 3) 43 0 [(0, (2, 1)), (1, (0, 1)), (2, (0, 9))] [] ψ5 x (fun r ψ6 y6 => y6 = x ∧ (∃ z6 : Int, r = some (0, z6) ∧ (hi z6 ∧ hi (-1 : Int) ∧ (¬ z6 = (-1 : Int) → hw sc (d + 3) 29 0 [(0, (2, 1))] [] ψ6 x (fun r ψ8 y8 => y8 = x ∧ (r = none ∧ (hw sc (d + 3) 44 0 [(0, (2, 31)), (1, (1, z1)), (3, (0, z3)), (4, (0, z6))] [] ψ8 x (fun r ψ9 y9 => y9 = x ∧ (r = none ∧ (Q (some (0, 1)) ψ9 x))))))) ∧ (¬ (¬ z6 = (-1 : Int)) → Q (some (0, 0)) ψ6 x)))))))) ∧ (¬ (¬ z3 = (-1 : Int)) → Q (some (0, 0)) ψ3 x))))) ∧ (¬ (¬ (jm_cmp z1 0) = 0) → Q (some (0, 0)) ψ1 x))))) :
    hw sc (d + 4) 38 0 [(0, (2, 182))] [] φ x Q := by
  refine hw_ald (b := 0) (e := 0) (by decide +kernel) rfl (by decide) ?_
  refine hw_k (c := 0) (b := 0) (e := 1) (by decide +kernel) ?_
  refine hr_call (a0 := 17) (b := 39) (e := 2) (nl := 4) (As := [(0, 0)]) (R := []) 182 rfl (by decide +kernel) rfl rfl (Nat.le_of_ble_eq_true rfl) (Nat.le_of_ble_eq_true rfl) ?_
  refine hw_mono H ?_
  rintro r ψ1 y1 ⟨hyx, z1, hr, H⟩
  subst hyx
  subst hr
  refine ⟨hne1, ?_⟩
  show hw sc (d + 4) 38 5 [(0, (2, 182))] [(1, z1)] ψ1 y1 Q
  refine hw_lst (L' := (jm_st2 [(0, (2, 182))] 1 (1, z1))) (b := 1) (e := 0) (by decide +kernel) rfl ?_
  refine hw_lld (b := 1) (e := 0) (by decide +kernel) get_st2e ?_
  refine hw_lk (c := 0) (b := 0) (e := 1) (by decide +kernel) ?_
  refine hw_lcmp (w := jm_cmp z1 0) (a0 := 0) (b := 0) (e := 0) (by decide +kernel) rfl ?_
  obtain ⟨hz2, ht2, hf2⟩ := H
  refine hw_if (a0 := 0) (b := 1) (e := 14) (by decide +kernel) hz2 (fun q => ?_) (fun q => ?_)
  · have H := ht2 q
    refine hw_ald (b := 0) (e := 0) (by decide +kernel) (get_st2 rfl (by decide) (by decide) (fun q => tg2 q.2)) (by decide) ?_
    refine hr_gr (w := 1) (b := 7) (e := 0) 182 rfl (by decide +kernel) ?_
    refine hw_k (c := 2) (b := 0) (e := 1) (by decide +kernel) ?_
    refine hw_k (c := 30) (b := 1) (e := 2) (by decide +kernel) ?_
    refine hr_call (a0 := 11) (b := 43) (e := 3) (nl := 3) (As := [(0, 2), (0, 30)]) (R := []) 1 rfl (by decide +kernel) rfl rfl (Nat.le_of_ble_eq_true rfl) (Nat.le_of_ble_eq_true rfl) ?_
    refine hw_mono H ?_
    rintro r ψ3 y3 ⟨hyx, z3, hr, H⟩
    subst hyx
    subst hr
    refine ⟨hne0, ?_⟩
    show hw sc (d + 4) 38 24 (jm_st2 [(0, (2, 182))] 1 (1, z1)) [(0, z3)] ψ3 y3 Q
    refine hw_st (L' := (jm_st1 (jm_st2 [(0, (2, 182))] 1 (1, z1)) 3 (0, z3))) (b := 3) (e := 0) (by decide +kernel) rfl ?_
    refine hw_ld (b := 3) (e := 0) (by decide +kernel) get_st1e ?_
    refine hw_k (c := (-1 : Int)) (b := 0) (e := 1) (by decide +kernel) ?_
    obtain ⟨hz4, hy4, ht4, hf4⟩ := H
    refine hw_if2 (a0 := 0) (b := 1) (e := 32) (by decide +kernel) hz4 hy4 (fun q => ?_) (fun q => ?_)
    · have H := ht4 q
      refine hw_ald (b := 0) (e := 0) (by decide +kernel) (get_st1 (get_st2 rfl (by decide) (by decide) (fun q => tg2 q.2)) (by decide) (fun q => absurd q.1 (by decide))) (by decide) ?_
      refine hr_gr (w := 1) (b := 7) (e := 0) 182 rfl (by decide +kernel) ?_
      refine hr_call (a0 := 11) (b := 29) (e := 1) (nl := 1) (As := []) (R := []) 1 rfl (by decide +kernel) rfl rfl (Nat.le_of_ble_eq_true rfl) (Nat.le_of_ble_eq_true rfl) ?_
      refine hw_mono H ?_
      rintro r ψ5 y5 ⟨hyx, hr, H⟩
      subst hyx
      subst hr
      refine ⟨hnen, ?_⟩
      show hw sc (d + 4) 38 39 (jm_st1 (jm_st2 [(0, (2, 182))] 1 (1, z1)) 3 (0, z3)) [] ψ5 y5 Q
      refine hw_ald (b := 0) (e := 0) (by decide +kernel) (get_st1 (get_st2 rfl (by decide) (by decide) (fun q => tg2 q.2)) (by decide) (fun q => absurd q.1 (by decide))) (by decide) ?_
      refine hr_gr (w := 1) (b := 7) (e := 0) 182 rfl (by decide +kernel) ?_
      refine hw_k (c := 1) (b := 0) (e := 1) (by decide +kernel) ?_
      refine hw_k (c := 9) (b := 1) (e := 2) (by decide +kernel) ?_
      refine hr_call (a0 := 11) (b := 43) (e := 3) (nl := 3) (As := [(0, 1), (0, 9)]) (R := []) 1 rfl (by decide +kernel) rfl rfl (Nat.le_of_ble_eq_true rfl) (Nat.le_of_ble_eq_true rfl) ?_
      refine hw_mono H ?_
      rintro r ψ6 y6 ⟨hyx, z6, hr, H⟩
      subst hyx
      subst hr
      refine ⟨hne0, ?_⟩
      show hw sc (d + 4) 38 49 (jm_st1 (jm_st2 [(0, (2, 182))] 1 (1, z1)) 3 (0, z3)) [(0, z6)] ψ6 y6 Q
      refine hw_st (L' := (jm_st1 (jm_st1 (jm_st2 [(0, (2, 182))] 1 (1, z1)) 3 (0, z3)) 4 (0, z6))) (b := 4) (e := 1) (by decide +kernel) rfl ?_
      refine hw_ld (b := 4) (e := 1) (by decide +kernel) get_st1e ?_
      refine hw_k (c := (-1 : Int)) (b := 0) (e := 1) (by decide +kernel) ?_
      obtain ⟨hz7, hy7, ht7, hf7⟩ := H
      refine hw_if2 (a0 := 0) (b := 1) (e := 59) (by decide +kernel) hz7 hy7 (fun q => ?_) (fun q => ?_)
      · have H := ht7 q
        refine hw_ald (b := 0) (e := 0) (by decide +kernel) (get_st1 (get_st1 (get_st2 rfl (by decide) (by decide) (fun q => tg2 q.2)) (by decide) (fun q => absurd q.1 (by decide))) (by decide) (fun q => absurd q.1 (by decide))) (by decide) ?_
        refine hr_gr (w := 1) (b := 7) (e := 0) 182 rfl (by decide +kernel) ?_
        refine hr_call (a0 := 11) (b := 29) (e := 1) (nl := 1) (As := []) (R := []) 1 rfl (by decide +kernel) rfl rfl (Nat.le_of_ble_eq_true rfl) (Nat.le_of_ble_eq_true rfl) ?_
        refine hw_mono H ?_
        rintro r ψ8 y8 ⟨hyx, hr, H⟩
        subst hyx
        subst hr
        refine ⟨hnen, ?_⟩
        show hw sc (d + 4) 38 66 (jm_st1 (jm_st1 (jm_st2 [(0, (2, 182))] 1 (1, z1)) 3 (0, z3)) 4 (0, z6)) [] ψ8 y8 Q
        refine hw_ald (b := 0) (e := 0) (by decide +kernel) (get_st1 (get_st1 (get_st2 rfl (by decide) (by decide) (fun q => tg2 q.2)) (by decide) (fun q => absurd q.1 (by decide))) (by decide) (fun q => absurd q.1 (by decide))) (by decide) ?_
        refine hr_gr (w := 31) (b := 7) (e := 1) 182 rfl (by decide +kernel) ?_
        refine hw_lld (b := 1) (e := 0) (by decide +kernel) (get_st1 (get_st1 get_st2e (by decide) (fun q => absurd q.1 (by decide))) (by decide) (fun q => absurd q.1 (by decide))) ?_
        refine hw_ld (b := 3) (e := 0) (by decide +kernel) (get_st1 get_st1e (by decide) (fun q => tg0 q.2)) ?_
        refine hw_ld (b := 4) (e := 1) (by decide +kernel) get_st1e ?_
        refine hr_call (a0 := 13) (b := 44) (e := 4) (nl := 6) (As := [(1, z1), (0, z3), (0, z6)]) (R := []) 31 rfl (by decide +kernel) rfl rfl (Nat.le_of_ble_eq_true rfl) (Nat.le_of_ble_eq_true rfl) ?_
        refine hw_mono H ?_
        rintro r ψ9 y9 ⟨hyx, hr, H⟩
        subst hyx
        subst hr
        refine ⟨hnen, ?_⟩
        show hw sc (d + 4) 38 77 (jm_st1 (jm_st1 (jm_st2 [(0, (2, 182))] 1 (1, z1)) 3 (0, z3)) 4 (0, z6)) [] ψ9 y9 Q
        refine hw_k (c := 1) (b := 0) (e := 1) (by decide +kernel) ?_
        exact hw_ret (a0 := 0) (e := 1) (by decide +kernel) (Or.inr ⟨rfl, by decide⟩) H
      · have H := hf7 q
        refine hw_k (c := 0) (b := 0) (e := 1) (by decide +kernel) ?_
        exact hw_ret (a0 := 0) (e := 1) (by decide +kernel) (Or.inr ⟨rfl, by decide⟩) H
    · have H := hf4 q
      refine hw_k (c := 0) (b := 0) (e := 1) (by decide +kernel) ?_
      exact hw_ret (a0 := 0) (e := 1) (by decide +kernel) (Or.inr ⟨rfl, by decide⟩) H
  · have H := hf2 q
    refine hw_k (c := 0) (b := 0) (e := 1) (by decide +kernel) ?_
    exact hw_ret (a0 := 0) (e := 1) (by decide +kernel) (Or.inr ⟨rfl, by decide⟩) H
theorem sf_38_182 {sc : List Int} {d : Nat} {φ : hf_F} {x : Nat} {Q : Option jm_V → hf_F → Nat → Prop}  (hI : Inv φ)  (hQ : ∀ (r : Int) (ψ : hf_F), Inv ψ → Fr [32, 33, 34, 35, 2004, 2005, 2006, 2007, 2008, 2009, 2010] φ ψ → 0 ≤ r ∧ r ≤ 1 → F_RideText_readRing_182 φ = (r, ψ) → Q (some (0, r)) ψ x) : hw sc (d + 4) 38 0 [(0, (2, 182))] [] φ x Q := by
  apply sf_38_182_v
  have e0 : F_RideText_readRing_182 φ = _ := rfl
  refine sf_39_182_k1_0 (φ := φ) hI  (fun z1 ψ1 hI1 hF1 hp1 hE1 => ⟨rfl, z1, rfl, ?_⟩)
  have hG1 : Fr [32, 33, 34, 35, 2004, 2005, 2006, 2007, 2008, 2009, 2010] φ ψ1 := fr_tr (fr_rf) hF1 (by decide)
  have f1 := iv_at (a := 32) (k := 0) (lo := 0) (u := 3) hI (by decide +kernel)
  have e1 := e0.trans (bnd_e hE1)
  have f2 := hr_cmp z1 0
  have f3 := hr_cmp0 z1
  refine ⟨by unfold hi; omega, fun q2 => ?_, fun q2 => ?_⟩
  · skip
    have e2a := e1.trans (if_pos q2)
    refine sf_43_1 (φ := ψ1) hI1 (by omega) (by omega) (by omega) (by omega) (fun z3 ψ3 hI3 hF3 hp3 hE3 => ⟨rfl, z3, rfl, ?_⟩)
    have hG3 : Fr [32, 33, 34, 35, 2004, 2005, 2006, 2007, 2008, 2009, 2010] φ ψ3 := fr_tr hG1 hF3 (by decide)
    have e3 := e2a.trans (bnd_e hE3)
    refine ⟨by unfold hi; omega, by unfold hi; omega, fun q4 => ?_, fun q4 => ?_⟩
    · skip
      have e4a := e3.trans (if_pos q4)
      refine sf_29_1 (φ := ψ3) hI3  (fun ψ5 hI5 hF5 hE5 => ⟨rfl, rfl, ?_⟩)
      have hG5 : Fr [32, 33, 34, 35, 2004, 2005, 2006, 2007, 2008, 2009, 2010] φ ψ5 := fr_tr hG3 hF5 (by decide)
      have e5 := e4a.trans (bnv_e hE5)
      refine sf_43_1 (φ := ψ5) hI5 (by omega) (by omega) (by omega) (by omega) (fun z6 ψ6 hI6 hF6 hp6 hE6 => ⟨rfl, z6, rfl, ?_⟩)
      have hG6 : Fr [32, 33, 34, 35, 2004, 2005, 2006, 2007, 2008, 2009, 2010] φ ψ6 := fr_tr hG5 hF6 (by decide)
      have e6 := e5.trans (bnd_e hE6)
      refine ⟨by unfold hi; omega, by unfold hi; omega, fun q7 => ?_, fun q7 => ?_⟩
      · skip
        have e7a := e6.trans (if_pos q7)
        refine sf_29_1 (φ := ψ6) hI6  (fun ψ8 hI8 hF8 hE8 => ⟨rfl, rfl, ?_⟩)
        have hG8 : Fr [32, 33, 34, 35, 2004, 2005, 2006, 2007, 2008, 2009, 2010] φ ψ8 := fr_tr hG6 hF8 (by decide)
        have e8 := e7a.trans (bnv_e hE8)
        have f4 := iv_at (a := 32) (k := 0) (lo := 0) (u := 3) hI8 (by decide +kernel)
        have f5 : ψ8 32 0 = ψ6 32 0 := (fr_at hF8 32 (by decide) 0)
        have f6 := iv_at (a := 32) (k := 0) (lo := 0) (u := 3) hI6 (by decide +kernel)
        have f7 : ψ6 32 0 = ψ5 32 0 := (fr_at hF6 32 (by decide) 0)
        have f8 := iv_at (a := 32) (k := 0) (lo := 0) (u := 3) hI5 (by decide +kernel)
        have f9 : ψ5 32 0 = ψ3 32 0 := (fr_at hF5 32 (by decide) 0)
        have f10 := iv_at (a := 32) (k := 0) (lo := 0) (u := 3) hI3 (by decide +kernel)
        have f11 : ψ3 32 0 = ψ1 32 0 := (fr_at hF3 32 (by decide) 0)
        have f12 := iv_at (a := 32) (k := 0) (lo := 0) (u := 3) hI1 (by decide +kernel)
        have f13 : ψ1 32 0 = φ 32 0 := (fr_at hF1 32 (by decide) 0)
        refine sf_44_31 (φ := ψ8) hI8 (by omega) (by omega) (by omega) (by omega) (by rw [show ψ8 32 0 = ψ8 32 0 from rfl]; constructor <;> omega) (fun ψ9 hI9 hF9 hE9 => ⟨rfl, rfl, ?_⟩)
        have hG9 : Fr [32, 33, 34, 35, 2004, 2005, 2006, 2007, 2008, 2009, 2010] φ ψ9 := fr_tr hG8 hF9 (by decide)
        have e9 := e8.trans (bnv_e hE9)
        exact hQ 1 ψ9 hI9 hG9 ⟨by omega, by omega⟩ e9
      · skip
        have e7b := e6.trans (if_neg q7)
        exact hQ 0 ψ6 hI6 hG6 ⟨by omega, by omega⟩ e7b
    · skip
      have e4b := e3.trans (if_neg q4)
      exact hQ 0 ψ3 hI3 hG3 ⟨by omega, by omega⟩ e4b
  · skip
    have e2b := e1.trans (if_neg q2)
    exact hQ 0 ψ1 hI1 hG1 ⟨by omega, by omega⟩ e2b
theorem sf_40_31_k1_2_v {sc : List Int} {d : Nat} {φ : hf_F} {x : Nat} {Q : Option jm_V → hf_F → Nat → Prop} 
    (H : hi (φ 32 2) ∧ hi 8 ∧ ((φ 32 2) < 8 → Q (some (0, 0)) φ x) ∧ (¬ (φ 32 2) < 8 → Q (some (0, 1)) φ x)) :
    hw sc d 40 0 [(0, (2, 31)), (1, (0, 2))] [] φ x Q := by
  refine hw_ald (b := 0) (e := 0) (by decide +kernel) rfl (by decide) ?_
  refine hr_gr (w := 32) (b := 3) (e := 0) 31 rfl (by decide +kernel) ?_
  refine hw_ld (b := 1) (e := 0) (by decide +kernel) rfl ?_
  refine hr_al (b := 0) (a0 := 0) (e := 0) (n := 5) (w := φ 32 2) 32 rfl (by decide +kernel) (by decide) (by decide) (by decide) rfl ?_
  refine hw_gm (a0 := 0) (e := 0) (by decide +kernel) ?_
  refine hw_ld (b := 1) (e := 0) (by decide +kernel) rfl ?_
  refine hw_mo (n := 2) (w := 8) (a0 := 0) (e := 0) (by decide +kernel) (by decide +kernel) (by decide +kernel) ?_
  obtain ⟨hz1, hy1, ht1, hf1⟩ := H
  refine hw_if2 (a0 := 0) (b := 2) (e := 18) (by decide +kernel) hz1 hy1 (fun q => ?_) (fun q => ?_)
  · have H := ht1 q
    refine hw_k (c := 0) (b := 0) (e := 1) (by decide +kernel) ?_
    exact hw_ret (a0 := 0) (e := 1) (by decide +kernel) (Or.inr ⟨rfl, by decide⟩) H
  · have H := hf1 q
    refine hw_k (c := 1) (b := 0) (e := 1) (by decide +kernel) ?_
    refine hw_goto (a0 := 0) (b := 0) (e := 19) (by decide +kernel) ?_
    exact hw_ret (a0 := 0) (e := 1) (by decide +kernel) (Or.inr ⟨rfl, by decide⟩) H
theorem sf_40_31_k1_2 {sc : List Int} {d : Nat} {φ : hf_F} {x : Nat} {Q : Option jm_V → hf_F → Nat → Prop}  (hI : Inv φ)  (hQ : ∀ (r : Int), 0 ≤ r ∧ r ≤ 1 ∧ (r = 0 → φ 32 2 ≤ 7) → F_Plan_isFull_31_k1_2 φ = r → Q (some (0, r)) φ x) : hw sc d 40 0 [(0, (2, 31)), (1, (0, 2))] [] φ x Q := by
  apply sf_40_31_k1_2_v
  have e0 : F_Plan_isFull_31_k1_2 φ = _ := rfl
  have f1 := iv_at (a := 32) (k := 2) (lo := 0) (u := 8) hI (by decide +kernel)
  refine ⟨by unfold hi; omega, by unfold hi; omega, fun q1 => ?_, fun q1 => ?_⟩
  · skip
    have e1a := e0.trans (if_pos q1)
    exact hQ 0 ⟨by omega, by omega, by omega⟩ e1a
  · skip
    have e1b := e0.trans (if_neg q1)
    exact hQ 1 ⟨by omega, by omega, by omega⟩ e1b
theorem sf_39_182_k1_2_v {sc : List Int} {d : Nat} {φ : hf_F} {x : Nat} {Q : Option jm_V → hf_F → Nat → Prop} 
    (H : hw sc (d + 2) 40 0 [(0, (2, 31)), (1, (0, 2))] [] φ x (fun r ψ1 y1 => y1 = x ∧ φ = ψ1 ∧ (∃ z1 : Int, r = some (0, z1) ∧ (hi z1 ∧ (z1 = 0 → hw sc (d + 2) 29 0 [(0, (2, 1))] [] φ x (fun r ψ3 y3 => y3 = x ∧ (r = none ∧ (hi (ψ3 1 5) ∧ hi 2 ∧ ((ψ3 1 5) = 2 → hw sc (d + 2) 41 0 [(0, (2, 31)), (1, (1, ψ3 1 8))] [] ψ3 x (fun r ψ5 y5 => y5 = x ∧ ψ3 = ψ5 ∧ (∃ z5 : Int, r = some (0, z5) ∧ (hi z5 ∧ (z5 = 0 → hw sc (d + 2) 29 0 [(0, (2, 1))] [] ψ3 x (fun r ψ7 y7 => y7 = x ∧ (r = none ∧ (Q (some (1, ψ3 1 8)) ψ7 x)))) ∧ (¬ z5 = 0 → hw sc (d + 2) 37 0 [(0, (2, 1)), (1, (0, 3))] [] ψ3 x (fun r ψ9 y9 => y9 = x ∧ (∃ z9 : Int, r = some (0, z9) ∧ (Q (some (1, 0)) ψ9 x)))))))) ∧ (¬ (ψ3 1 5) = 2 → hw sc (d + 2) 37 0 [(0, (2, 1)), (1, (0, 1))] [] ψ3 x (fun r ψ11 y11 => y11 = x ∧ (∃ z11 : Int, r = some (0, z11) ∧ (Q (some (1, 0)) ψ11 x)))))))) ∧ (¬ z1 = 0 → hw sc (d + 2) 37 0 [(0, (2, 1)), (1, (0, 4))] [] φ x (fun r ψ13 y13 => y13 = x ∧ (∃ z13 : Int, r = some (0, z13) ∧ (Q (some (1, 0)) ψ13 x)))))))) :
    hw sc (d + 3) 39 0 [(0, (2, 182)), (1, (0, 2))] [] φ x Q := by
  refine hw_ald (b := 0) (e := 0) (by decide +kernel) rfl (by decide) ?_
  refine hr_gr (w := 31) (b := 7) (e := 1) 182 rfl (by decide +kernel) ?_
  refine hw_ld (b := 1) (e := 0) (by decide +kernel) rfl ?_
  refine hr_call (a0 := 13) (b := 40) (e := 2) (nl := 2) (As := [(0, 2)]) (R := []) 31 rfl (by decide +kernel) rfl rfl (Nat.le_of_ble_eq_true rfl) (Nat.le_of_ble_eq_true rfl) ?_
  refine hw_mono H ?_
  rintro r ψ1 y1 ⟨hyx, hψx, z1, hr, H⟩
  subst hyx
  subst hψx
  subst hr
  refine ⟨hne0, ?_⟩
  show hw sc (d + 3) 39 8 [(0, (2, 182)), (1, (0, 2))] [(0, z1)] φ y1 Q
  obtain ⟨hz2, ht2, hf2⟩ := H
  refine hw_if (a0 := 0) (b := 0) (e := 22) (by decide +kernel) hz2 (fun q => ?_) (fun q => ?_)
  · have H := ht2 q
    refine hw_ald (b := 0) (e := 0) (by decide +kernel) rfl (by decide) ?_
    refine hr_gr (w := 1) (b := 7) (e := 0) 182 rfl (by decide +kernel) ?_
    refine hr_call (a0 := 11) (b := 29) (e := 1) (nl := 1) (As := []) (R := []) 1 rfl (by decide +kernel) rfl rfl (Nat.le_of_ble_eq_true rfl) (Nat.le_of_ble_eq_true rfl) ?_
    refine hw_mono H ?_
    rintro r ψ3 y3 ⟨hyx, hr, H⟩
    subst hyx
    subst hr
    refine ⟨hnen, ?_⟩
    show hw sc (d + 3) 39 29 [(0, (2, 182)), (1, (0, 2))] [] ψ3 y3 Q
    refine hw_ald (b := 0) (e := 0) (by decide +kernel) rfl (by decide) ?_
    refine hr_gr (w := 1) (b := 7) (e := 0) 182 rfl (by decide +kernel) ?_
    refine hr_gi (w := ψ3 1 5) (b := 1) (e := 5) 1 rfl (by decide +kernel) rfl ?_
    refine hw_k (c := 2) (b := 0) (e := 1) (by decide +kernel) ?_
    obtain ⟨hz4, hy4, ht4, hf4⟩ := H
    refine hw_if2 (a0 := 0) (b := 0) (e := 51) (by decide +kernel) hz4 hy4 (fun q => ?_) (fun q => ?_)
    · have H := ht4 q
      refine hw_ald (b := 0) (e := 0) (by decide +kernel) rfl (by decide) ?_
      refine hr_gr (w := 31) (b := 7) (e := 1) 182 rfl (by decide +kernel) ?_
      refine hw_ald (b := 0) (e := 0) (by decide +kernel) rfl (by decide) ?_
      refine hr_gr (w := 1) (b := 7) (e := 0) 182 rfl (by decide +kernel) ?_
      refine hr_gl (w := ψ3 1 8) (b := 1) (e := 8) 1 rfl (by decide +kernel) rfl ?_
      refine hr_call (a0 := 13) (b := 41) (e := 2) (nl := 4) (As := [(1, ψ3 1 8)]) (R := []) 31 rfl (by decide +kernel) rfl rfl (Nat.le_of_ble_eq_true rfl) (Nat.le_of_ble_eq_true rfl) ?_
      refine hw_mono H ?_
      rintro r ψ5 y5 ⟨hyx, hψx, z5, hr, H⟩
      subst hyx
      subst hψx
      subst hr
      refine ⟨hne0, ?_⟩
      show hw sc (d + 3) 39 65 [(0, (2, 182)), (1, (0, 2))] [(0, z5)] ψ3 y5 Q
      obtain ⟨hz6, ht6, hf6⟩ := H
      refine hw_if (a0 := 0) (b := 0) (e := 79) (by decide +kernel) hz6 (fun q => ?_) (fun q => ?_)
      · have H := ht6 q
        refine hw_ald (b := 0) (e := 0) (by decide +kernel) rfl (by decide) ?_
        refine hr_gr (w := 1) (b := 7) (e := 0) 182 rfl (by decide +kernel) ?_
        refine hr_gl (w := ψ3 1 8) (b := 1) (e := 8) 1 rfl (by decide +kernel) rfl ?_
        refine hw_lst (L' := (jm_st2 [(0, (2, 182)), (1, (0, 2))] 2 (1, ψ3 1 8))) (b := 2) (e := 0) (by decide +kernel) rfl ?_
        refine hw_ald (b := 0) (e := 0) (by decide +kernel) (get_st2 rfl (by decide) (by decide) (fun q => absurd q.1 (by decide))) (by decide) ?_
        refine hr_gr (w := 1) (b := 7) (e := 0) 182 rfl (by decide +kernel) ?_
        refine hr_call (a0 := 11) (b := 29) (e := 1) (nl := 1) (As := []) (R := []) 1 rfl (by decide +kernel) rfl rfl (Nat.le_of_ble_eq_true rfl) (Nat.le_of_ble_eq_true rfl) ?_
        refine hw_mono H ?_
        rintro r ψ7 y7 ⟨hyx, hr, H⟩
        subst hyx
        subst hr
        refine ⟨hnen, ?_⟩
        show hw sc (d + 3) 39 94 (jm_st2 [(0, (2, 182)), (1, (0, 2))] 2 (1, ψ3 1 8)) [] ψ7 y7 Q
        refine hw_lld (b := 2) (e := 0) (by decide +kernel) get_st2e ?_
        exact hw_lret (a0 := 0) (e := 4) (by decide +kernel) H
      · have H := hf6 q
        refine hw_ald (b := 0) (e := 0) (by decide +kernel) rfl (by decide) ?_
        refine hr_gr (w := 1) (b := 7) (e := 0) 182 rfl (by decide +kernel) ?_
        refine hw_k (c := 3) (b := 0) (e := 1) (by decide +kernel) ?_
        refine hr_call (a0 := 11) (b := 37) (e := 2) (nl := 2) (As := [(0, 3)]) (R := []) 1 rfl (by decide +kernel) rfl rfl (Nat.le_of_ble_eq_true rfl) (Nat.le_of_ble_eq_true rfl) ?_
        refine hw_mono H ?_
        rintro r ψ9 y9 ⟨hyx, z9, hr, H⟩
        subst hyx
        subst hr
        refine ⟨hne0, ?_⟩
        show hw sc (d + 3) 39 76 [(0, (2, 182)), (1, (0, 2))] [(0, z9)] ψ9 y9 Q
        refine hw_pop (a0 := 0) (e := 0) (by decide +kernel) (by decide) ?_
        refine hw_lk (c := 0) (b := 0) (e := 1) (by decide +kernel) ?_
        exact hw_lret (a0 := 0) (e := 4) (by decide +kernel) H
    · have H := hf4 q
      refine hw_ald (b := 0) (e := 0) (by decide +kernel) rfl (by decide) ?_
      refine hr_gr (w := 1) (b := 7) (e := 0) 182 rfl (by decide +kernel) ?_
      refine hw_k (c := 1) (b := 0) (e := 1) (by decide +kernel) ?_
      refine hr_call (a0 := 11) (b := 37) (e := 2) (nl := 2) (As := [(0, 1)]) (R := []) 1 rfl (by decide +kernel) rfl rfl (Nat.le_of_ble_eq_true rfl) (Nat.le_of_ble_eq_true rfl) ?_
      refine hw_mono H ?_
      rintro r ψ11 y11 ⟨hyx, z11, hr, H⟩
      subst hyx
      subst hr
      refine ⟨hne0, ?_⟩
      show hw sc (d + 3) 39 48 [(0, (2, 182)), (1, (0, 2))] [(0, z11)] ψ11 y11 Q
      refine hw_pop (a0 := 0) (e := 0) (by decide +kernel) (by decide) ?_
      refine hw_lk (c := 0) (b := 0) (e := 1) (by decide +kernel) ?_
      exact hw_lret (a0 := 0) (e := 4) (by decide +kernel) H
  · have H := hf2 q
    refine hw_ald (b := 0) (e := 0) (by decide +kernel) rfl (by decide) ?_
    refine hr_gr (w := 1) (b := 7) (e := 0) 182 rfl (by decide +kernel) ?_
    refine hw_k (c := 4) (b := 0) (e := 1) (by decide +kernel) ?_
    refine hr_call (a0 := 11) (b := 37) (e := 2) (nl := 2) (As := [(0, 4)]) (R := []) 1 rfl (by decide +kernel) rfl rfl (Nat.le_of_ble_eq_true rfl) (Nat.le_of_ble_eq_true rfl) ?_
    refine hw_mono H ?_
    rintro r ψ13 y13 ⟨hyx, z13, hr, H⟩
    subst hyx
    subst hr
    refine ⟨hne0, ?_⟩
    show hw sc (d + 3) 39 19 [(0, (2, 182)), (1, (0, 2))] [(0, z13)] ψ13 y13 Q
    refine hw_pop (a0 := 0) (e := 0) (by decide +kernel) (by decide) ?_
    refine hw_lk (c := 0) (b := 0) (e := 1) (by decide +kernel) ?_
    exact hw_lret (a0 := 0) (e := 4) (by decide +kernel) H
theorem sf_39_182_k1_2 {sc : List Int} {d : Nat} {φ : hf_F} {x : Nat} {Q : Option jm_V → hf_F → Nat → Prop}  (hI : Inv φ)  (hQ : ∀ (r : Int) (ψ : hf_F), Inv ψ → Fr [2004, 2005, 2006, 2007, 2008, 2009, 2010] φ ψ → True ∧ (¬ r = 0 → φ 32 2 ≤ 7) → F_RideText_readNew_182_k1_2 φ = (r, ψ) → Q (some (1, r)) ψ x) : hw sc (d + 3) 39 0 [(0, (2, 182)), (1, (0, 2))] [] φ x Q := by
  apply sf_39_182_k1_2_v
  have e0 : F_RideText_readNew_182_k1_2 φ = _ := rfl
  refine sf_40_31_k1_2 (φ := φ) hI  (fun z1 hp1 hE1 => ⟨rfl, rfl, z1, rfl, ?_⟩)
  have e1 := e0.trans (bnp_e hE1)
  have f1 := iv_at (a := 32) (k := 2) (lo := 0) (u := 8) hI (by decide +kernel)
  refine ⟨by unfold hi; omega, fun q2 => ?_, fun q2 => ?_⟩
  · skip
    have e2a := e1.trans (if_pos q2)
    refine sf_29_1 (φ := φ) hI  (fun ψ3 hI3 hF3 hE3 => ⟨rfl, rfl, ?_⟩)
    have hG3 : Fr [2004, 2005, 2006, 2007, 2008, 2009, 2010] φ ψ3 := fr_tr (fr_rf) hF3 (by decide)
    have e3 := e2a.trans (bnv_e hE3)
    have f2 := iv_at (a := 1) (k := 5) (lo := 0) (u := 5) hI3 (by decide +kernel)
    refine ⟨by unfold hi; omega, by unfold hi; omega, fun q4 => ?_, fun q4 => ?_⟩
    · skip
      have e4a := e3.trans (if_pos q4)
      refine sf_41_31 (φ := ψ3) hI3  (fun z5 hp5 hE5 => ⟨rfl, rfl, z5, rfl, ?_⟩)
      have e5 := e4a.trans (bnp_e hE5)
      refine ⟨by unfold hi; omega, fun q6 => ?_, fun q6 => ?_⟩
      · skip
        have e6a := e5.trans (if_pos q6)
        refine sf_29_1 (φ := ψ3) hI3  (fun ψ7 hI7 hF7 hE7 => ⟨rfl, rfl, ?_⟩)
        have hG7 : Fr [2004, 2005, 2006, 2007, 2008, 2009, 2010] φ ψ7 := fr_tr hG3 hF7 (by decide)
        have e7 := e6a.trans (bnv_e hE7)
        exact hQ (ψ3 1 8) ψ7 hI7 hG7 ⟨trivial, by omega⟩ e7
      · skip
        have e6b := e5.trans (if_neg q6)
        refine sf_37_1 (φ := ψ3) hI3 (by omega) (by omega) (fun z9 ψ9 hI9 hF9 hp9 hE9 => ⟨rfl, z9, rfl, ?_⟩)
        have hG9 : Fr [2004, 2005, 2006, 2007, 2008, 2009, 2010] φ ψ9 := fr_tr hG3 hF9 (by decide)
        have e9 := e6b.trans (bnd_e hE9)
        exact hQ (0) ψ9 hI9 hG9 ⟨trivial, by omega⟩ e9
    · skip
      have e4b := e3.trans (if_neg q4)
      refine sf_37_1 (φ := ψ3) hI3 (by omega) (by omega) (fun z11 ψ11 hI11 hF11 hp11 hE11 => ⟨rfl, z11, rfl, ?_⟩)
      have hG11 : Fr [2004, 2005, 2006, 2007, 2008, 2009, 2010] φ ψ11 := fr_tr hG3 hF11 (by decide)
      have e11 := e4b.trans (bnd_e hE11)
      exact hQ (0) ψ11 hI11 hG11 ⟨trivial, by omega⟩ e11
  · skip
    have e2b := e1.trans (if_neg q2)
    refine sf_37_1 (φ := φ) hI (by omega) (by omega) (fun z13 ψ13 hI13 hF13 hp13 hE13 => ⟨rfl, z13, rfl, ?_⟩)
    have hG13 : Fr [2004, 2005, 2006, 2007, 2008, 2009, 2010] φ ψ13 := fr_tr (fr_rf) hF13 (by decide)
    have e13 := e2b.trans (bnd_e hE13)
    exact hQ (0) ψ13 hI13 hG13 ⟨trivial, by omega⟩ e13
theorem sf_45_31_k1_2_v {sc : List Int} {d : Nat} {φ : hf_F} {x : Nat} {Q : Option jm_V → hf_F → Nat → Prop} {v2 : Int}
    (H : 0 ≤ (16 + (φ 32 2)) ∧ (16 + (φ 32 2)) < 40 ∧ (Q (some (0, φ 32 2)) (hf_up (hf_up φ 33 ((16 + (φ 32 2)).toNat) v2) 32 2 ((φ 32 2) + 1)) x)) :
    hw sc d 45 0 [(0, (2, 31)), (1, (0, 2)), (2, (1, v2))] [] φ x Q := by
  refine hw_ald (b := 0) (e := 0) (by decide +kernel) rfl (by decide) ?_
  refine hr_gr (w := 32) (b := 3) (e := 0) 31 rfl (by decide +kernel) ?_
  refine hw_ld (b := 1) (e := 0) (by decide +kernel) rfl ?_
  refine hr_al (b := 0) (a0 := 0) (e := 0) (n := 5) (w := φ 32 2) 32 rfl (by decide +kernel) (by decide) (by decide) (by decide) rfl ?_
  refine hw_st (L' := (jm_st1 [(0, (2, 31)), (1, (0, 2)), (2, (1, v2))] 4 (0, φ 32 2))) (b := 4) (e := 1) (by decide +kernel) rfl ?_
  refine hw_ald (b := 0) (e := 0) (by decide +kernel) (get_st1 rfl (by decide) (fun q => absurd q.1 (by decide))) (by decide) ?_
  refine hr_gr (w := 33) (b := 3) (e := 1) 31 rfl (by decide +kernel) ?_
  refine hw_ld (b := 1) (e := 0) (by decide +kernel) (get_st1 rfl (by decide) (fun q => absurd q.1 (by decide))) ?_
  refine hw_k (c := 8) (b := 1) (e := 2) (by decide +kernel) ?_
  refine hw_bin (w := 16) (a0 := 0) (b := 2) (e := 0) (by decide +kernel) rfl ?_
  refine hw_ld (b := 4) (e := 1) (by decide +kernel) get_st1e ?_
  refine hw_bin (w := 16 + (φ 32 2)) (a0 := 0) (b := 0) (e := 0) (by decide +kernel) rfl ?_
  refine hw_lld (b := 2) (e := 0) (by decide +kernel) (get_st1 rfl (by decide) (fun q => absurd q.1 (by decide))) ?_
  obtain ⟨hl1, hu1, H⟩ := H
  refine hr_asl (a0 := 0) (e := 4) (n := 40) 33 rfl (by decide +kernel) hl1 hu1 ?_
  refine hw_ald (b := 0) (e := 0) (by decide +kernel) (get_st1 rfl (by decide) (fun q => absurd q.1 (by decide))) (by decide) ?_
  refine hr_gr (w := 32) (b := 3) (e := 0) 31 rfl (by decide +kernel) ?_
  refine hw_ld (b := 1) (e := 0) (by decide +kernel) (get_st1 rfl (by decide) (fun q => absurd q.1 (by decide))) ?_
  refine hw_dup2 (a0 := 0) (e := 0) (by decide +kernel) (by decide) (by decide) ?_
  refine hr_al (b := 0) (a0 := 0) (e := 0) (n := 5) (w := φ 32 2) 32 rfl (by decide +kernel) (by decide) (by decide) (by decide) (hf_up_ne (fun q => absurd q.1 (by decide))) ?_
  refine hw_k (c := 1) (b := 0) (e := 1) (by decide +kernel) ?_
  refine hw_bin (w := (φ 32 2) + 1) (a0 := 0) (b := 0) (e := 0) (by decide +kernel) rfl ?_
  refine hr_as (a0 := 0) (e := 4) (n := 5) 32 rfl (by decide +kernel) (by decide) (by decide) ?_
  refine hw_ld (b := 4) (e := 1) (by decide +kernel) get_st1e ?_
  exact hw_ret (a0 := 0) (e := 0) (by decide +kernel) (Or.inl rfl) H
theorem sf_45_31_k1_2 {sc : List Int} {d : Nat} {φ : hf_F} {x : Nat} {Q : Option jm_V → hf_F → Nat → Prop} {v2 : Int} (hI : Inv φ) (hx0 : 0 ≤ φ 32 2 ∧ φ 32 2 ≤ 7) (hQ : ∀ (r : Int) (ψ : hf_F), Inv ψ → Fr [32, 33] φ ψ → 0 ≤ r ∧ r ≤ 7 ∧ r ≤ 7 → F_Plan_addNamed_31_k1_2 φ v2 = (r, ψ) → Q (some (0, r)) ψ x) : hw sc d 45 0 [(0, (2, 31)), (1, (0, 2)), (2, (1, v2))] [] φ x Q := by
  apply sf_45_31_k1_2_v
  have e0 : F_Plan_addNamed_31_k1_2 φ v2 = _ := rfl
  have f1 := iv_at (a := 32) (k := 2) (lo := 0) (u := 8) hI (by decide +kernel)
  refine ⟨by omega, by omega, ?_⟩
  have i2 : Inv (hf_up φ 33 ((16 + (φ 32 2)).toNat) v2) := iv_upIn hI (by decide) (by decide +kernel)
  have r2 : Fr [32, 33] φ (hf_up φ 33 ((16 + (φ 32 2)).toNat) v2) := fr_upa (fr_rf) (by decide)
  have i3 : Inv (hf_up (hf_up φ 33 ((16 + (φ 32 2)).toNat) v2) 32 2 ((φ 32 2) + 1)) := iv_up (lo := 0) (u := 8) i2 (by decide +kernel) (by omega) (by omega)
  have r3 : Fr [32, 33] φ (hf_up (hf_up φ 33 ((16 + (φ 32 2)).toNat) v2) 32 2 ((φ 32 2) + 1)) := fr_upa r2 (by decide)
  exact hQ (φ 32 2) (hf_up (hf_up φ 33 ((16 + (φ 32 2)).toNat) v2) 32 2 ((φ 32 2) + 1)) i3 r3 ⟨by omega, by omega, by omega⟩ e0
theorem sf_50_182_v {sc : List Int} {d : Nat} {φ : hf_F} {x : Nat} {Q : Option jm_V → hf_F → Nat → Prop} 
    (H : hw sc (d + 3) 39 0 [(0, (2, 182)), (1, (0, 2))] [] φ x (fun r ψ1 y1 => y1 = x ∧ (∃ z1 : Int, r = some (1, z1) ∧ (hi (jm_cmp z1 0) ∧ (¬ (jm_cmp z1 0) = 0 → hw sc (d + 3) 45 0 [(0, (2, 31)), (1, (0, 2)), (2, (1, z1))] [] ψ1 x (fun r ψ3 y3 => y3 = x ∧ (∃ z3 : Int, r = some (0, z3) ∧ (Q (some (0, 1)) ψ3 x)))) ∧ (¬ (¬ (jm_cmp z1 0) = 0) → Q (some (0, 0)) ψ1 x))))) :
    hw sc (d + 4) 50 0 [(0, (2, 182))] [] φ x Q := by
  refine hw_ald (b := 0) (e := 0) (by decide +kernel) rfl (by decide) ?_
  refine hw_k (c := 2) (b := 0) (e := 1) (by decide +kernel) ?_
  refine hr_call (a0 := 17) (b := 39) (e := 2) (nl := 4) (As := [(0, 2)]) (R := []) 182 rfl (by decide +kernel) rfl rfl (Nat.le_of_ble_eq_true rfl) (Nat.le_of_ble_eq_true rfl) ?_
  refine hw_mono H ?_
  rintro r ψ1 y1 ⟨hyx, z1, hr, H⟩
  subst hyx
  subst hr
  refine ⟨hne1, ?_⟩
  show hw sc (d + 4) 50 5 [(0, (2, 182))] [(1, z1)] ψ1 y1 Q
  refine hw_lst (L' := (jm_st2 [(0, (2, 182))] 1 (1, z1))) (b := 1) (e := 0) (by decide +kernel) rfl ?_
  refine hw_lld (b := 1) (e := 0) (by decide +kernel) get_st2e ?_
  refine hw_lk (c := 0) (b := 0) (e := 1) (by decide +kernel) ?_
  refine hw_lcmp (w := jm_cmp z1 0) (a0 := 0) (b := 0) (e := 0) (by decide +kernel) rfl ?_
  obtain ⟨hz2, ht2, hf2⟩ := H
  refine hw_if (a0 := 0) (b := 1) (e := 14) (by decide +kernel) hz2 (fun q => ?_) (fun q => ?_)
  · have H := ht2 q
    refine hw_ald (b := 0) (e := 0) (by decide +kernel) (get_st2 rfl (by decide) (by decide) (fun q => tg2 q.2)) (by decide) ?_
    refine hr_gr (w := 31) (b := 7) (e := 1) 182 rfl (by decide +kernel) ?_
    refine hw_k (c := 2) (b := 0) (e := 1) (by decide +kernel) ?_
    refine hw_lld (b := 1) (e := 0) (by decide +kernel) get_st2e ?_
    refine hr_call (a0 := 13) (b := 45) (e := 3) (nl := 5) (As := [(0, 2), (1, z1)]) (R := []) 31 rfl (by decide +kernel) rfl rfl (Nat.le_of_ble_eq_true rfl) (Nat.le_of_ble_eq_true rfl) ?_
    refine hw_mono H ?_
    rintro r ψ3 y3 ⟨hyx, z3, hr, H⟩
    subst hyx
    subst hr
    refine ⟨hne0, ?_⟩
    show hw sc (d + 4) 50 23 (jm_st2 [(0, (2, 182))] 1 (1, z1)) [(0, z3)] ψ3 y3 Q
    refine hw_pop (a0 := 0) (e := 0) (by decide +kernel) (by decide) ?_
    refine hw_k (c := 1) (b := 0) (e := 1) (by decide +kernel) ?_
    exact hw_ret (a0 := 0) (e := 1) (by decide +kernel) (Or.inr ⟨rfl, by decide⟩) H
  · have H := hf2 q
    refine hw_k (c := 0) (b := 0) (e := 1) (by decide +kernel) ?_
    exact hw_ret (a0 := 0) (e := 1) (by decide +kernel) (Or.inr ⟨rfl, by decide⟩) H
theorem sf_50_182 {sc : List Int} {d : Nat} {φ : hf_F} {x : Nat} {Q : Option jm_V → hf_F → Nat → Prop}  (hI : Inv φ)  (hQ : ∀ (r : Int) (ψ : hf_F), Inv ψ → Fr [32, 33, 2004, 2005, 2006, 2007, 2008, 2009, 2010] φ ψ → 0 ≤ r ∧ r ≤ 1 → F_RideText_readWord_182 φ = (r, ψ) → Q (some (0, r)) ψ x) : hw sc (d + 4) 50 0 [(0, (2, 182))] [] φ x Q := by
  apply sf_50_182_v
  have e0 : F_RideText_readWord_182 φ = _ := rfl
  refine sf_39_182_k1_2 (φ := φ) hI  (fun z1 ψ1 hI1 hF1 hp1 hE1 => ⟨rfl, z1, rfl, ?_⟩)
  have hG1 : Fr [32, 33, 2004, 2005, 2006, 2007, 2008, 2009, 2010] φ ψ1 := fr_tr (fr_rf) hF1 (by decide)
  have f1 := iv_at (a := 32) (k := 2) (lo := 0) (u := 8) hI (by decide +kernel)
  have e1 := e0.trans (bnd_e hE1)
  have f2 := hr_cmp z1 0
  have f3 := hr_cmp0 z1
  refine ⟨by unfold hi; omega, fun q2 => ?_, fun q2 => ?_⟩
  · skip
    have e2a := e1.trans (if_pos q2)
    have f4 := iv_at (a := 32) (k := 2) (lo := 0) (u := 8) hI1 (by decide +kernel)
    have f5 : ψ1 32 2 = φ 32 2 := (fr_at hF1 32 (by decide) 2)
    refine sf_45_31_k1_2 (φ := ψ1) hI1 (by rw [show ψ1 32 2 = ψ1 32 2 from rfl]; constructor <;> omega) (fun z3 ψ3 hI3 hF3 hp3 hE3 => ⟨rfl, z3, rfl, ?_⟩)
    have hG3 : Fr [32, 33, 2004, 2005, 2006, 2007, 2008, 2009, 2010] φ ψ3 := fr_tr hG1 hF3 (by decide)
    have e3 := e2a.trans (bnd_e hE3)
    exact hQ 1 ψ3 hI3 hG3 ⟨by omega, by omega⟩ e3
  · skip
    have e2b := e1.trans (if_neg q2)
    exact hQ 0 ψ1 hI1 hG1 ⟨by omega, by omega⟩ e2b
theorem sf_40_31_k1_1_v {sc : List Int} {d : Nat} {φ : hf_F} {x : Nat} {Q : Option jm_V → hf_F → Nat → Prop} 
    (H : hi (φ 32 1) ∧ hi 8 ∧ ((φ 32 1) < 8 → Q (some (0, 0)) φ x) ∧ (¬ (φ 32 1) < 8 → Q (some (0, 1)) φ x)) :
    hw sc d 40 0 [(0, (2, 31)), (1, (0, 1))] [] φ x Q := by
  refine hw_ald (b := 0) (e := 0) (by decide +kernel) rfl (by decide) ?_
  refine hr_gr (w := 32) (b := 3) (e := 0) 31 rfl (by decide +kernel) ?_
  refine hw_ld (b := 1) (e := 0) (by decide +kernel) rfl ?_
  refine hr_al (b := 0) (a0 := 0) (e := 0) (n := 5) (w := φ 32 1) 32 rfl (by decide +kernel) (by decide) (by decide) (by decide) rfl ?_
  refine hw_gm (a0 := 0) (e := 0) (by decide +kernel) ?_
  refine hw_ld (b := 1) (e := 0) (by decide +kernel) rfl ?_
  refine hw_mo (n := 1) (w := 8) (a0 := 0) (e := 0) (by decide +kernel) (by decide +kernel) (by decide +kernel) ?_
  obtain ⟨hz1, hy1, ht1, hf1⟩ := H
  refine hw_if2 (a0 := 0) (b := 2) (e := 18) (by decide +kernel) hz1 hy1 (fun q => ?_) (fun q => ?_)
  · have H := ht1 q
    refine hw_k (c := 0) (b := 0) (e := 1) (by decide +kernel) ?_
    exact hw_ret (a0 := 0) (e := 1) (by decide +kernel) (Or.inr ⟨rfl, by decide⟩) H
  · have H := hf1 q
    refine hw_k (c := 1) (b := 0) (e := 1) (by decide +kernel) ?_
    refine hw_goto (a0 := 0) (b := 0) (e := 19) (by decide +kernel) ?_
    exact hw_ret (a0 := 0) (e := 1) (by decide +kernel) (Or.inr ⟨rfl, by decide⟩) H
theorem sf_40_31_k1_1 {sc : List Int} {d : Nat} {φ : hf_F} {x : Nat} {Q : Option jm_V → hf_F → Nat → Prop}  (hI : Inv φ)  (hQ : ∀ (r : Int), 0 ≤ r ∧ r ≤ 1 ∧ (r = 0 → φ 32 1 ≤ 7) → F_Plan_isFull_31_k1_1 φ = r → Q (some (0, r)) φ x) : hw sc d 40 0 [(0, (2, 31)), (1, (0, 1))] [] φ x Q := by
  apply sf_40_31_k1_1_v
  have e0 : F_Plan_isFull_31_k1_1 φ = _ := rfl
  have f1 := iv_at (a := 32) (k := 1) (lo := 0) (u := 8) hI (by decide +kernel)
  refine ⟨by unfold hi; omega, by unfold hi; omega, fun q1 => ?_, fun q1 => ?_⟩
  · skip
    have e1a := e0.trans (if_pos q1)
    exact hQ 0 ⟨by omega, by omega, by omega⟩ e1a
  · skip
    have e1b := e0.trans (if_neg q1)
    exact hQ 1 ⟨by omega, by omega, by omega⟩ e1b
theorem sf_39_182_k1_1_v {sc : List Int} {d : Nat} {φ : hf_F} {x : Nat} {Q : Option jm_V → hf_F → Nat → Prop} 
    (H : hw sc (d + 2) 40 0 [(0, (2, 31)), (1, (0, 1))] [] φ x (fun r ψ1 y1 => y1 = x ∧ φ = ψ1 ∧ (∃ z1 : Int, r = some (0, z1) ∧ (hi z1 ∧ (z1 = 0 → hw sc (d + 2) 29 0 [(0, (2, 1))] [] φ x (fun r ψ3 y3 => y3 = x ∧ (r = none ∧ (hi (ψ3 1 5) ∧ hi 2 ∧ ((ψ3 1 5) = 2 → hw sc (d + 2) 41 0 [(0, (2, 31)), (1, (1, ψ3 1 8))] [] ψ3 x (fun r ψ5 y5 => y5 = x ∧ ψ3 = ψ5 ∧ (∃ z5 : Int, r = some (0, z5) ∧ (hi z5 ∧ (z5 = 0 → hw sc (d + 2) 29 0 [(0, (2, 1))] [] ψ3 x (fun r ψ7 y7 => y7 = x ∧ (r = none ∧ (Q (some (1, ψ3 1 8)) ψ7 x)))) ∧ (¬ z5 = 0 → hw sc (d + 2) 37 0 [(0, (2, 1)), (1, (0, 3))] [] ψ3 x (fun r ψ9 y9 => y9 = x ∧ (∃ z9 : Int, r = some (0, z9) ∧ (Q (some (1, 0)) ψ9 x)))))))) ∧ (¬ (ψ3 1 5) = 2 → hw sc (d + 2) 37 0 [(0, (2, 1)), (1, (0, 1))] [] ψ3 x (fun r ψ11 y11 => y11 = x ∧ (∃ z11 : Int, r = some (0, z11) ∧ (Q (some (1, 0)) ψ11 x)))))))) ∧ (¬ z1 = 0 → hw sc (d + 2) 37 0 [(0, (2, 1)), (1, (0, 4))] [] φ x (fun r ψ13 y13 => y13 = x ∧ (∃ z13 : Int, r = some (0, z13) ∧ (Q (some (1, 0)) ψ13 x)))))))) :
    hw sc (d + 3) 39 0 [(0, (2, 182)), (1, (0, 1))] [] φ x Q := by
  refine hw_ald (b := 0) (e := 0) (by decide +kernel) rfl (by decide) ?_
  refine hr_gr (w := 31) (b := 7) (e := 1) 182 rfl (by decide +kernel) ?_
  refine hw_ld (b := 1) (e := 0) (by decide +kernel) rfl ?_
  refine hr_call (a0 := 13) (b := 40) (e := 2) (nl := 2) (As := [(0, 1)]) (R := []) 31 rfl (by decide +kernel) rfl rfl (Nat.le_of_ble_eq_true rfl) (Nat.le_of_ble_eq_true rfl) ?_
  refine hw_mono H ?_
  rintro r ψ1 y1 ⟨hyx, hψx, z1, hr, H⟩
  subst hyx
  subst hψx
  subst hr
  refine ⟨hne0, ?_⟩
  show hw sc (d + 3) 39 8 [(0, (2, 182)), (1, (0, 1))] [(0, z1)] φ y1 Q
  obtain ⟨hz2, ht2, hf2⟩ := H
  refine hw_if (a0 := 0) (b := 0) (e := 22) (by decide +kernel) hz2 (fun q => ?_) (fun q => ?_)
  · have H := ht2 q
    refine hw_ald (b := 0) (e := 0) (by decide +kernel) rfl (by decide) ?_
    refine hr_gr (w := 1) (b := 7) (e := 0) 182 rfl (by decide +kernel) ?_
    refine hr_call (a0 := 11) (b := 29) (e := 1) (nl := 1) (As := []) (R := []) 1 rfl (by decide +kernel) rfl rfl (Nat.le_of_ble_eq_true rfl) (Nat.le_of_ble_eq_true rfl) ?_
    refine hw_mono H ?_
    rintro r ψ3 y3 ⟨hyx, hr, H⟩
    subst hyx
    subst hr
    refine ⟨hnen, ?_⟩
    show hw sc (d + 3) 39 29 [(0, (2, 182)), (1, (0, 1))] [] ψ3 y3 Q
    refine hw_ald (b := 0) (e := 0) (by decide +kernel) rfl (by decide) ?_
    refine hr_gr (w := 1) (b := 7) (e := 0) 182 rfl (by decide +kernel) ?_
    refine hr_gi (w := ψ3 1 5) (b := 1) (e := 5) 1 rfl (by decide +kernel) rfl ?_
    refine hw_k (c := 2) (b := 0) (e := 1) (by decide +kernel) ?_
    obtain ⟨hz4, hy4, ht4, hf4⟩ := H
    refine hw_if2 (a0 := 0) (b := 0) (e := 51) (by decide +kernel) hz4 hy4 (fun q => ?_) (fun q => ?_)
    · have H := ht4 q
      refine hw_ald (b := 0) (e := 0) (by decide +kernel) rfl (by decide) ?_
      refine hr_gr (w := 31) (b := 7) (e := 1) 182 rfl (by decide +kernel) ?_
      refine hw_ald (b := 0) (e := 0) (by decide +kernel) rfl (by decide) ?_
      refine hr_gr (w := 1) (b := 7) (e := 0) 182 rfl (by decide +kernel) ?_
      refine hr_gl (w := ψ3 1 8) (b := 1) (e := 8) 1 rfl (by decide +kernel) rfl ?_
      refine hr_call (a0 := 13) (b := 41) (e := 2) (nl := 4) (As := [(1, ψ3 1 8)]) (R := []) 31 rfl (by decide +kernel) rfl rfl (Nat.le_of_ble_eq_true rfl) (Nat.le_of_ble_eq_true rfl) ?_
      refine hw_mono H ?_
      rintro r ψ5 y5 ⟨hyx, hψx, z5, hr, H⟩
      subst hyx
      subst hψx
      subst hr
      refine ⟨hne0, ?_⟩
      show hw sc (d + 3) 39 65 [(0, (2, 182)), (1, (0, 1))] [(0, z5)] ψ3 y5 Q
      obtain ⟨hz6, ht6, hf6⟩ := H
      refine hw_if (a0 := 0) (b := 0) (e := 79) (by decide +kernel) hz6 (fun q => ?_) (fun q => ?_)
      · have H := ht6 q
        refine hw_ald (b := 0) (e := 0) (by decide +kernel) rfl (by decide) ?_
        refine hr_gr (w := 1) (b := 7) (e := 0) 182 rfl (by decide +kernel) ?_
        refine hr_gl (w := ψ3 1 8) (b := 1) (e := 8) 1 rfl (by decide +kernel) rfl ?_
        refine hw_lst (L' := (jm_st2 [(0, (2, 182)), (1, (0, 1))] 2 (1, ψ3 1 8))) (b := 2) (e := 0) (by decide +kernel) rfl ?_
        refine hw_ald (b := 0) (e := 0) (by decide +kernel) (get_st2 rfl (by decide) (by decide) (fun q => absurd q.1 (by decide))) (by decide) ?_
        refine hr_gr (w := 1) (b := 7) (e := 0) 182 rfl (by decide +kernel) ?_
        refine hr_call (a0 := 11) (b := 29) (e := 1) (nl := 1) (As := []) (R := []) 1 rfl (by decide +kernel) rfl rfl (Nat.le_of_ble_eq_true rfl) (Nat.le_of_ble_eq_true rfl) ?_
        refine hw_mono H ?_
        rintro r ψ7 y7 ⟨hyx, hr, H⟩
        subst hyx
        subst hr
        refine ⟨hnen, ?_⟩
        show hw sc (d + 3) 39 94 (jm_st2 [(0, (2, 182)), (1, (0, 1))] 2 (1, ψ3 1 8)) [] ψ7 y7 Q
        refine hw_lld (b := 2) (e := 0) (by decide +kernel) get_st2e ?_
        exact hw_lret (a0 := 0) (e := 4) (by decide +kernel) H
      · have H := hf6 q
        refine hw_ald (b := 0) (e := 0) (by decide +kernel) rfl (by decide) ?_
        refine hr_gr (w := 1) (b := 7) (e := 0) 182 rfl (by decide +kernel) ?_
        refine hw_k (c := 3) (b := 0) (e := 1) (by decide +kernel) ?_
        refine hr_call (a0 := 11) (b := 37) (e := 2) (nl := 2) (As := [(0, 3)]) (R := []) 1 rfl (by decide +kernel) rfl rfl (Nat.le_of_ble_eq_true rfl) (Nat.le_of_ble_eq_true rfl) ?_
        refine hw_mono H ?_
        rintro r ψ9 y9 ⟨hyx, z9, hr, H⟩
        subst hyx
        subst hr
        refine ⟨hne0, ?_⟩
        show hw sc (d + 3) 39 76 [(0, (2, 182)), (1, (0, 1))] [(0, z9)] ψ9 y9 Q
        refine hw_pop (a0 := 0) (e := 0) (by decide +kernel) (by decide) ?_
        refine hw_lk (c := 0) (b := 0) (e := 1) (by decide +kernel) ?_
        exact hw_lret (a0 := 0) (e := 4) (by decide +kernel) H
    · have H := hf4 q
      refine hw_ald (b := 0) (e := 0) (by decide +kernel) rfl (by decide) ?_
      refine hr_gr (w := 1) (b := 7) (e := 0) 182 rfl (by decide +kernel) ?_
      refine hw_k (c := 1) (b := 0) (e := 1) (by decide +kernel) ?_
      refine hr_call (a0 := 11) (b := 37) (e := 2) (nl := 2) (As := [(0, 1)]) (R := []) 1 rfl (by decide +kernel) rfl rfl (Nat.le_of_ble_eq_true rfl) (Nat.le_of_ble_eq_true rfl) ?_
      refine hw_mono H ?_
      rintro r ψ11 y11 ⟨hyx, z11, hr, H⟩
      subst hyx
      subst hr
      refine ⟨hne0, ?_⟩
      show hw sc (d + 3) 39 48 [(0, (2, 182)), (1, (0, 1))] [(0, z11)] ψ11 y11 Q
      refine hw_pop (a0 := 0) (e := 0) (by decide +kernel) (by decide) ?_
      refine hw_lk (c := 0) (b := 0) (e := 1) (by decide +kernel) ?_
      exact hw_lret (a0 := 0) (e := 4) (by decide +kernel) H
  · have H := hf2 q
    refine hw_ald (b := 0) (e := 0) (by decide +kernel) rfl (by decide) ?_
    refine hr_gr (w := 1) (b := 7) (e := 0) 182 rfl (by decide +kernel) ?_
    refine hw_k (c := 4) (b := 0) (e := 1) (by decide +kernel) ?_
    refine hr_call (a0 := 11) (b := 37) (e := 2) (nl := 2) (As := [(0, 4)]) (R := []) 1 rfl (by decide +kernel) rfl rfl (Nat.le_of_ble_eq_true rfl) (Nat.le_of_ble_eq_true rfl) ?_
    refine hw_mono H ?_
    rintro r ψ13 y13 ⟨hyx, z13, hr, H⟩
    subst hyx
    subst hr
    refine ⟨hne0, ?_⟩
    show hw sc (d + 3) 39 19 [(0, (2, 182)), (1, (0, 1))] [(0, z13)] ψ13 y13 Q
    refine hw_pop (a0 := 0) (e := 0) (by decide +kernel) (by decide) ?_
    refine hw_lk (c := 0) (b := 0) (e := 1) (by decide +kernel) ?_
    exact hw_lret (a0 := 0) (e := 4) (by decide +kernel) H
theorem sf_39_182_k1_1 {sc : List Int} {d : Nat} {φ : hf_F} {x : Nat} {Q : Option jm_V → hf_F → Nat → Prop}  (hI : Inv φ)  (hQ : ∀ (r : Int) (ψ : hf_F), Inv ψ → Fr [2004, 2005, 2006, 2007, 2008, 2009, 2010] φ ψ → True ∧ (¬ r = 0 → φ 32 1 ≤ 7) → F_RideText_readNew_182_k1_1 φ = (r, ψ) → Q (some (1, r)) ψ x) : hw sc (d + 3) 39 0 [(0, (2, 182)), (1, (0, 1))] [] φ x Q := by
  apply sf_39_182_k1_1_v
  have e0 : F_RideText_readNew_182_k1_1 φ = _ := rfl
  refine sf_40_31_k1_1 (φ := φ) hI  (fun z1 hp1 hE1 => ⟨rfl, rfl, z1, rfl, ?_⟩)
  have e1 := e0.trans (bnp_e hE1)
  have f1 := iv_at (a := 32) (k := 1) (lo := 0) (u := 8) hI (by decide +kernel)
  refine ⟨by unfold hi; omega, fun q2 => ?_, fun q2 => ?_⟩
  · skip
    have e2a := e1.trans (if_pos q2)
    refine sf_29_1 (φ := φ) hI  (fun ψ3 hI3 hF3 hE3 => ⟨rfl, rfl, ?_⟩)
    have hG3 : Fr [2004, 2005, 2006, 2007, 2008, 2009, 2010] φ ψ3 := fr_tr (fr_rf) hF3 (by decide)
    have e3 := e2a.trans (bnv_e hE3)
    have f2 := iv_at (a := 1) (k := 5) (lo := 0) (u := 5) hI3 (by decide +kernel)
    refine ⟨by unfold hi; omega, by unfold hi; omega, fun q4 => ?_, fun q4 => ?_⟩
    · skip
      have e4a := e3.trans (if_pos q4)
      refine sf_41_31 (φ := ψ3) hI3  (fun z5 hp5 hE5 => ⟨rfl, rfl, z5, rfl, ?_⟩)
      have e5 := e4a.trans (bnp_e hE5)
      refine ⟨by unfold hi; omega, fun q6 => ?_, fun q6 => ?_⟩
      · skip
        have e6a := e5.trans (if_pos q6)
        refine sf_29_1 (φ := ψ3) hI3  (fun ψ7 hI7 hF7 hE7 => ⟨rfl, rfl, ?_⟩)
        have hG7 : Fr [2004, 2005, 2006, 2007, 2008, 2009, 2010] φ ψ7 := fr_tr hG3 hF7 (by decide)
        have e7 := e6a.trans (bnv_e hE7)
        exact hQ (ψ3 1 8) ψ7 hI7 hG7 ⟨trivial, by omega⟩ e7
      · skip
        have e6b := e5.trans (if_neg q6)
        refine sf_37_1 (φ := ψ3) hI3 (by omega) (by omega) (fun z9 ψ9 hI9 hF9 hp9 hE9 => ⟨rfl, z9, rfl, ?_⟩)
        have hG9 : Fr [2004, 2005, 2006, 2007, 2008, 2009, 2010] φ ψ9 := fr_tr hG3 hF9 (by decide)
        have e9 := e6b.trans (bnd_e hE9)
        exact hQ (0) ψ9 hI9 hG9 ⟨trivial, by omega⟩ e9
    · skip
      have e4b := e3.trans (if_neg q4)
      refine sf_37_1 (φ := ψ3) hI3 (by omega) (by omega) (fun z11 ψ11 hI11 hF11 hp11 hE11 => ⟨rfl, z11, rfl, ?_⟩)
      have hG11 : Fr [2004, 2005, 2006, 2007, 2008, 2009, 2010] φ ψ11 := fr_tr hG3 hF11 (by decide)
      have e11 := e4b.trans (bnd_e hE11)
      exact hQ (0) ψ11 hI11 hG11 ⟨trivial, by omega⟩ e11
  · skip
    have e2b := e1.trans (if_neg q2)
    refine sf_37_1 (φ := φ) hI (by omega) (by omega) (fun z13 ψ13 hI13 hF13 hp13 hE13 => ⟨rfl, z13, rfl, ?_⟩)
    have hG13 : Fr [2004, 2005, 2006, 2007, 2008, 2009, 2010] φ ψ13 := fr_tr (fr_rf) hF13 (by decide)
    have e13 := e2b.trans (bnd_e hE13)
    exact hQ (0) ψ13 hI13 hG13 ⟨trivial, by omega⟩ e13
theorem sf_42_31_k1_0_v3 {sc : List Int} {d : Nat} {φ : hf_F} {x : Nat} {Q : Option jm_V → hf_F → Nat → Prop} {L : jm_L} {l2 l4 : Int} (g0 : jm_get L 0 = some (2, 31)) (g1 : jm_get L 1 = some (0, 0)) (g2 : jm_get L 2 = some (1, l2)) (g4 : jm_get L 4 = some (0, l4))
    (H : hi l4 ∧ hi (φ 32 0) ∧ ((φ 32 0) ≤ l4 → Q (some (0, (-1 : Int))) φ x) ∧ (¬ (φ 32 0) ≤ l4 → 0 ≤ (0 + l4) ∧ (0 + l4) < 40 ∧ (hi (jm_cmp (φ 33 ((0 + l4).toNat)) l2) ∧ (¬ (jm_cmp (φ 33 ((0 + l4).toNat)) l2) = 0 → hw sc d 42 3 (jm_st1 L 4 (0, l4 + 1)) [] φ x Q) ∧ (¬ (¬ (jm_cmp (φ 33 ((0 + l4).toNat)) l2) = 0) → Q (some (0, l4)) φ x)))) :
    hw sc d 42 3 L [] φ x Q := by
  refine hw_ld (b := 4) (e := 1) (by decide +kernel) g4 ?_
  refine hw_ald (b := 0) (e := 0) (by decide +kernel) g0 (by decide) ?_
  refine hr_gr (w := 32) (b := 3) (e := 0) 31 rfl (by decide +kernel) ?_
  refine hw_ld (b := 1) (e := 0) (by decide +kernel) g1 ?_
  refine hr_al (b := 0) (a0 := 0) (e := 0) (n := 5) (w := φ 32 0) 32 rfl (by decide +kernel) (by decide) (by decide) (by decide) rfl ?_
  obtain ⟨hz1, hy1, ht1, hf1⟩ := H
  refine hw_if2 (a0 := 0) (b := 3) (e := 40) (by decide +kernel) hz1 hy1 (fun q => ?_) (fun q => ?_)
  · have H := ht1 q
    refine hw_k (c := (-1 : Int)) (b := 0) (e := 1) (by decide +kernel) ?_
    exact hw_ret (a0 := 0) (e := 0) (by decide +kernel) (Or.inl rfl) H
  · have H := hf1 q
    refine hw_ald (b := 0) (e := 0) (by decide +kernel) g0 (by decide) ?_
    refine hr_gr (w := 33) (b := 3) (e := 1) 31 rfl (by decide +kernel) ?_
    refine hw_ld (b := 1) (e := 0) (by decide +kernel) g1 ?_
    refine hw_k (c := 8) (b := 1) (e := 2) (by decide +kernel) ?_
    refine hw_bin (w := 0) (a0 := 0) (b := 2) (e := 0) (by decide +kernel) rfl ?_
    refine hw_ld (b := 4) (e := 1) (by decide +kernel) g4 ?_
    refine hw_bin (w := 0 + l4) (a0 := 0) (b := 0) (e := 0) (by decide +kernel) rfl ?_
    obtain ⟨hl3, hu3, H⟩ := H
    refine hr_all (a0 := 0) (e := 0) (n := 40) (w := φ 33 ((0 + l4).toNat)) 33 rfl (by decide +kernel) hl3 hu3 rfl ?_
    refine hw_lld (b := 2) (e := 0) (by decide +kernel) g2 ?_
    refine hw_lcmp (w := jm_cmp (φ 33 ((0 + l4).toNat)) l2) (a0 := 0) (b := 0) (e := 0) (by decide +kernel) rfl ?_
    obtain ⟨hz4, ht4, hf4⟩ := H
    refine hw_if (a0 := 0) (b := 1) (e := 34) (by decide +kernel) hz4 (fun q => ?_) (fun q => ?_)
    · have H := ht4 q
      refine hw_inc (L' := (jm_st1 L 4 (0, l4 + 1))) (c := 1) (b := 4) (e := 0) (by decide +kernel) g4 rfl ?_
      refine hw_goto (a0 := 0) (b := 0) (e := 3) (by decide +kernel) ?_
      exact H
    · have H := hf4 q
      refine hw_ld (b := 4) (e := 1) (by decide +kernel) g4 ?_
      exact hw_ret (a0 := 0) (e := 0) (by decide +kernel) (Or.inl rfl) H
theorem sf_42_31_k1_0_l3 {sc : List Int} {d x : Nat} {Q : Option jm_V → hf_F → Nat → Prop} : ∀ (n : Nat) (φ : hf_F) (L : jm_L) (l2 l4 : Int), jm_get L 0 = some (2, 31) → jm_get L 1 = some (0, 0) → jm_get L 2 = some (1, l2) → jm_get L 4 = some (0, l4) → Inv φ → 8 - l4 < (n : Int) → 0 ≤ l4 → l4 ≤ 8 → (∀ (r : Int), (-1 : Int) ≤ r ∧ r ≤ 7 ∧ (r = -1 ∨ (0 ≤ r ∧ r < φ 32 0 ∧ φ 32 0 ≤ 3)) → F_Plan_numberOf_31_k1_0_l3 n φ l2 l4 = r → Q (some (0, r)) φ x) → hw sc d 42 3 L [] φ x Q := by
  intro n
  induction n with
  | zero =>
    intro φ L l2 l4 g0 g1 g2 g4 hI hM b4a b4b hQ
    exfalso
    omega
  | succ n ih =>
    intro φ L l2 l4 g0 g1 g2 g4 hI hM b4a b4b hQ
    refine sf_42_31_k1_0_v3 g0 g1 g2 g4 ?_
    have e0 := F_Plan_numberOf_31_k1_0_l3_s (φ := φ) (l2 := l2) (l4 := l4) n
    have f1 := iv_at (a := 32) (k := 0) (lo := 0) (u := 3) hI (by decide +kernel)
    refine ⟨by unfold hi; omega, by unfold hi; omega, fun q1 => ?_, fun q1 => ?_⟩
    · skip
      have e1a := e0.trans (if_pos q1)
      exact hQ (-1 : Int) ⟨by omega, by omega, by omega⟩ e1a
    · skip
      have e1b := e0.trans (if_neg q1)
      refine ⟨by omega, by omega, ?_⟩
      have f2 := hr_cmp (φ 33 ((0 + l4).toNat)) l2
      refine ⟨by unfold hi; omega, fun q4 => ?_, fun q4 => ?_⟩
      · skip
        have e4a := e1b.trans (if_pos q4)
        exact ih φ (jm_st1 L 4 (0, l4 + 1)) l2 (l4 + 1) (get_st1 g0 (by decide) (fun q => absurd q.1 (by decide))) (get_st1 g1 (by decide) (fun q => absurd q.1 (by decide))) (get_st1 g2 (by decide) (fun q => absurd q.1 (by decide))) get_st1e hI (by omega) (by omega) (by omega) (fun rr hpχ hEχ => hQ rr hpχ (e4a.trans hEχ))
      · skip
        have e4b := e1b.trans (if_neg q4)
        exact hQ l4 ⟨by omega, by omega, by omega⟩ e4b
theorem sf_42_31_k1_0_v {sc : List Int} {d : Nat} {φ : hf_F} {x : Nat} {Q : Option jm_V → hf_F → Nat → Prop} {v2 : Int}
    (H : hw sc d 42 3 (jm_st1 [(0, (2, 31)), (1, (0, 0)), (2, (1, v2))] 4 (0, 0)) [] φ x Q) :
    hw sc d 42 0 [(0, (2, 31)), (1, (0, 0)), (2, (1, v2))] [] φ x Q := by
  refine hw_k (c := 0) (b := 0) (e := 1) (by decide +kernel) ?_
  refine hw_st (L' := (jm_st1 [(0, (2, 31)), (1, (0, 0)), (2, (1, v2))] 4 (0, 0))) (b := 4) (e := 1) (by decide +kernel) rfl ?_
  exact H
theorem sf_42_31_k1_0 {sc : List Int} {d : Nat} {φ : hf_F} {x : Nat} {Q : Option jm_V → hf_F → Nat → Prop} {v2 : Int} (hI : Inv φ)  (hQ : ∀ (r : Int), (-1 : Int) ≤ r ∧ r ≤ 7 ∧ (r = -1 ∨ (0 ≤ r ∧ r < φ 32 0 ∧ φ 32 0 ≤ 3)) → F_Plan_numberOf_31_k1_0 φ v2 = r → Q (some (0, r)) φ x) : hw sc d 42 0 [(0, (2, 31)), (1, (0, 0)), (2, (1, v2))] [] φ x Q := by
  apply sf_42_31_k1_0_v
  have e0 : F_Plan_numberOf_31_k1_0 φ v2 = _ := rfl
  exact sf_42_31_k1_0_l3 ((8 - 0 : Int).toNat + 1) φ (jm_st1 [(0, (2, 31)), (1, (0, 0)), (2, (1, v2))] 4 (0, 0)) v2 0 (get_st1 rfl (by decide) (fun q => absurd q.1 (by decide))) (get_st1 rfl (by decide) (fun q => absurd q.1 (by decide))) (get_st1 rfl (by decide) (fun q => absurd q.1 (by decide))) get_st1e hI (by omega) (by omega) (by omega) (fun rr hpχ hEχ => hQ rr hpχ (e0.trans hEχ))
theorem sf_47_1_31_k2_0_v {sc : List Int} {d : Nat} {φ : hf_F} {x : Nat} {Q : Option jm_V → hf_F → Nat → Prop} 
    (H : hi (φ 1 5) ∧ hi 2 ∧ ((φ 1 5) = 2 → hw sc d 42 0 [(0, (2, 31)), (1, (0, 0)), (2, (1, φ 1 8))] [] φ x (fun r ψ2 y2 => y2 = x ∧ φ = ψ2 ∧ (∃ z2 : Int, r = some (0, z2) ∧ (hi z2 ∧ hi (-1 : Int) ∧ (¬ z2 = (-1 : Int) → Q (some (0, z2)) φ x) ∧ (¬ (¬ z2 = (-1 : Int)) → hw sc d 37 0 [(0, (2, 1)), (1, (0, 3))] [] φ x (fun r ψ5 y5 => y5 = x ∧ (∃ z5 : Int, r = some (0, z5) ∧ (Q (some (0, z2)) ψ5 x)))))))) ∧ (¬ (φ 1 5) = 2 → hw sc d 37 0 [(0, (2, 1)), (1, (0, 1))] [] φ x (fun r ψ7 y7 => y7 = x ∧ (∃ z7 : Int, r = some (0, z7) ∧ (Q (some (0, (-1 : Int))) ψ7 x))))) :
    hw sc (d + 1) 47 0 [(0, (2, 1)), (1, (2, 31)), (2, (0, 0))] [] φ x Q := by
  refine hw_ald (b := 0) (e := 0) (by decide +kernel) rfl (by decide) ?_
  refine hr_gi (w := φ 1 5) (b := 1) (e := 5) 1 rfl (by decide +kernel) rfl ?_
  refine hw_k (c := 2) (b := 0) (e := 1) (by decide +kernel) ?_
  obtain ⟨hz1, hy1, ht1, hf1⟩ := H
  refine hw_if2 (a0 := 0) (b := 0) (e := 16) (by decide +kernel) hz1 hy1 (fun q => ?_) (fun q => ?_)
  · have H := ht1 q
    refine hw_ald (b := 1) (e := 0) (by decide +kernel) rfl (by decide) ?_
    refine hw_ld (b := 2) (e := 0) (by decide +kernel) rfl ?_
    refine hw_ald (b := 0) (e := 0) (by decide +kernel) rfl (by decide) ?_
    refine hr_gl (w := φ 1 8) (b := 1) (e := 8) 1 rfl (by decide +kernel) rfl ?_
    refine hr_call (a0 := 13) (b := 42) (e := 3) (nl := 5) (As := [(0, 0), (1, φ 1 8)]) (R := []) 31 rfl (by decide +kernel) rfl rfl (Nat.le_of_ble_eq_true rfl) (Nat.le_of_ble_eq_true rfl) ?_
    refine hw_mono H ?_
    rintro r ψ2 y2 ⟨hyx, hψx, z2, hr, H⟩
    subst hyx
    subst hψx
    subst hr
    refine ⟨hne0, ?_⟩
    show hw sc (d + 1) 47 25 [(0, (2, 1)), (1, (2, 31)), (2, (0, 0))] [(0, z2)] φ y2 Q
    refine hw_st (L' := (jm_st1 [(0, (2, 1)), (1, (2, 31)), (2, (0, 0))] 3 (0, z2))) (b := 3) (e := 0) (by decide +kernel) rfl ?_
    refine hw_ld (b := 3) (e := 0) (by decide +kernel) get_st1e ?_
    refine hw_k (c := (-1 : Int)) (b := 0) (e := 1) (by decide +kernel) ?_
    obtain ⟨hz3, hy3, ht3, hf3⟩ := H
    refine hw_if2 (a0 := 0) (b := 1) (e := 37) (by decide +kernel) hz3 hy3 (fun q => ?_) (fun q => ?_)
    · have H := ht3 q
      refine hw_ld (b := 3) (e := 0) (by decide +kernel) get_st1e ?_
      exact hw_ret (a0 := 0) (e := 0) (by decide +kernel) (Or.inl rfl) H
    · have H := hf3 q
      refine hw_ald (b := 0) (e := 0) (by decide +kernel) (get_st1 rfl (by decide) (fun q => absurd q.1 (by decide))) (by decide) ?_
      refine hw_k (c := 3) (b := 0) (e := 1) (by decide +kernel) ?_
      refine hr_call (a0 := 11) (b := 37) (e := 2) (nl := 2) (As := [(0, 3)]) (R := []) 1 rfl (by decide +kernel) rfl rfl (Nat.le_of_ble_eq_true rfl) (Nat.le_of_ble_eq_true rfl) ?_
      refine hw_mono H ?_
      rintro r ψ5 y5 ⟨hyx, z5, hr, H⟩
      subst hyx
      subst hr
      refine ⟨hne0, ?_⟩
      show hw sc (d + 1) 47 36 (jm_st1 [(0, (2, 1)), (1, (2, 31)), (2, (0, 0))] 3 (0, z2)) [(0, z5)] ψ5 y5 Q
      refine hw_pop (a0 := 0) (e := 0) (by decide +kernel) (by decide) ?_
      refine hw_ld (b := 3) (e := 0) (by decide +kernel) get_st1e ?_
      exact hw_ret (a0 := 0) (e := 0) (by decide +kernel) (Or.inl rfl) H
  · have H := hf1 q
    refine hw_ald (b := 0) (e := 0) (by decide +kernel) rfl (by decide) ?_
    refine hw_k (c := 1) (b := 0) (e := 1) (by decide +kernel) ?_
    refine hr_call (a0 := 11) (b := 37) (e := 2) (nl := 2) (As := [(0, 1)]) (R := []) 1 rfl (by decide +kernel) rfl rfl (Nat.le_of_ble_eq_true rfl) (Nat.le_of_ble_eq_true rfl) ?_
    refine hw_mono H ?_
    rintro r ψ7 y7 ⟨hyx, z7, hr, H⟩
    subst hyx
    subst hr
    refine ⟨hne0, ?_⟩
    show hw sc (d + 1) 47 13 [(0, (2, 1)), (1, (2, 31)), (2, (0, 0))] [(0, z7)] ψ7 y7 Q
    refine hw_pop (a0 := 0) (e := 0) (by decide +kernel) (by decide) ?_
    refine hw_k (c := (-1 : Int)) (b := 0) (e := 1) (by decide +kernel) ?_
    exact hw_ret (a0 := 0) (e := 0) (by decide +kernel) (Or.inl rfl) H
theorem sf_47_1_31_k2_0 {sc : List Int} {d : Nat} {φ : hf_F} {x : Nat} {Q : Option jm_V → hf_F → Nat → Prop}  (hI : Inv φ)  (hQ : ∀ (r : Int) (ψ : hf_F), Inv ψ → Fr [2009, 2010] φ ψ → (-1 : Int) ≤ r ∧ r ≤ 7 ∧ (r = -1 ∨ (0 ≤ r ∧ r < φ 32 0 ∧ φ 32 0 ≤ 3)) → F_Reader_peekNamed_1_31_k2_0 φ = (r, ψ) → Q (some (0, r)) ψ x) : hw sc (d + 1) 47 0 [(0, (2, 1)), (1, (2, 31)), (2, (0, 0))] [] φ x Q := by
  apply sf_47_1_31_k2_0_v
  have e0 : F_Reader_peekNamed_1_31_k2_0 φ = _ := rfl
  have f1 := iv_at (a := 1) (k := 5) (lo := 0) (u := 5) hI (by decide +kernel)
  refine ⟨by unfold hi; omega, by unfold hi; omega, fun q1 => ?_, fun q1 => ?_⟩
  · skip
    have e1a := e0.trans (if_pos q1)
    refine sf_42_31_k1_0 (φ := φ) hI  (fun z2 hp2 hE2 => ⟨rfl, rfl, z2, rfl, ?_⟩)
    have e2 := e1a.trans (bnp_e hE2)
    have f2 := iv_at (a := 32) (k := 0) (lo := 0) (u := 3) hI (by decide +kernel)
    refine ⟨by unfold hi; omega, by unfold hi; omega, fun q3 => ?_, fun q3 => ?_⟩
    · skip
      have e3a := e2.trans (if_pos q3)
      exact hQ z2 φ hI (fr_rf) ⟨by omega, by omega, by omega⟩ e3a
    · skip
      have e3b := e2.trans (if_neg q3)
      refine sf_37_1 (φ := φ) hI (by omega) (by omega) (fun z5 ψ5 hI5 hF5 hp5 hE5 => ⟨rfl, z5, rfl, ?_⟩)
      have hG5 : Fr [2009, 2010] φ ψ5 := fr_tr (fr_rf) hF5 (by decide)
      have e5 := e3b.trans (bnd_e hE5)
      exact hQ z2 ψ5 hI5 hG5 ⟨by omega, by omega, by omega⟩ e5
  · skip
    have e1b := e0.trans (if_neg q1)
    refine sf_37_1 (φ := φ) hI (by omega) (by omega) (fun z7 ψ7 hI7 hF7 hp7 hE7 => ⟨rfl, z7, rfl, ?_⟩)
    have hG7 : Fr [2009, 2010] φ ψ7 := fr_tr (fr_rf) hF7 (by decide)
    have e7 := e1b.trans (bnd_e hE7)
    have f3 := iv_at (a := 32) (k := 0) (lo := 0) (u := 3) hI (by decide +kernel)
    exact hQ (-1 : Int) ψ7 hI7 hG7 ⟨by omega, by omega, by omega⟩ e7
theorem sf_46_182_v {sc : List Int} {d : Nat} {φ : hf_F} {x : Nat} {Q : Option jm_V → hf_F → Nat → Prop} 
    (H : hw sc (d + 3) 39 0 [(0, (2, 182)), (1, (0, 1))] [] φ x (fun r ψ1 y1 => y1 = x ∧ (∃ z1 : Int, r = some (1, z1) ∧ (hi (jm_cmp z1 0) ∧ (¬ (jm_cmp z1 0) = 0 → hw sc (d + 3) 47 0 [(0, (2, 1)), (1, (2, 31)), (2, (0, 0))] [] ψ1 x (fun r ψ3 y3 => y3 = x ∧ (∃ z3 : Int, r = some (0, z3) ∧ (hi z3 ∧ hi (-1 : Int) ∧ (¬ z3 = (-1 : Int) → hw sc (d + 3) 29 0 [(0, (2, 1))] [] ψ3 x (fun r ψ5 y5 => y5 = x ∧ (r = none ∧ (0 ≤ z3 ∧ z3 < 3 ∧ (hw sc (d + 3) 43 0 [(0, (2, 1)), (1, (0, 0)), (2, (0, (ψ5 34 ((z3).toNat)) - 1))] [] ψ5 x (fun r ψ7 y7 => y7 = x ∧ (∃ z7 : Int, r = some (0, z7) ∧ (hi z7 ∧ hi (-1 : Int) ∧ (¬ z7 = (-1 : Int) → hw sc (d + 3) 48 0 [(0, (2, 182)), (1, (0, z3)), (2, (0, z7))] [] ψ7 x (fun r ψ9 y9 => y9 = x ∧ ψ7 = ψ9 ∧ (∃ z9 : Int, r = some (0, z9) ∧ (hi z9 ∧ (z9 = 0 → hw sc (d + 3) 29 0 [(0, (2, 1))] [] ψ7 x (fun r ψ11 y11 => y11 = x ∧ (r = none ∧ (hw sc (d + 3) 49 0 [(0, (2, 31)), (1, (1, z1)), (3, (0, z3))] [] ψ11 x (fun r ψ12 y12 => y12 = x ∧ (∃ z12 : Int, r = some (0, z12) ∧ (0 ≤ z12 ∧ z12 < 8 ∧ (Q (some (0, 1)) (hf_up ψ12 44 ((z12).toNat) z7) x)))))))) ∧ (¬ z9 = 0 → hw sc (d + 3) 37 0 [(0, (2, 1)), (1, (0, 3))] [] ψ7 x (fun r ψ15 y15 => y15 = x ∧ (∃ z15 : Int, r = some (0, z15) ∧ ((z15 = 0 ∨ z15 = 1) ∧ Q (some (0, z15)) ψ15 x)))))))) ∧ (¬ (¬ z7 = (-1 : Int)) → Q (some (0, 0)) ψ7 x))))))))) ∧ (¬ (¬ z3 = (-1 : Int)) → Q (some (0, 0)) ψ3 x))))) ∧ (¬ (¬ (jm_cmp z1 0) = 0) → Q (some (0, 0)) ψ1 x))))) :
    hw sc (d + 4) 46 0 [(0, (2, 182))] [] φ x Q := by
  refine hw_ald (b := 0) (e := 0) (by decide +kernel) rfl (by decide) ?_
  refine hw_k (c := 1) (b := 0) (e := 1) (by decide +kernel) ?_
  refine hr_call (a0 := 17) (b := 39) (e := 2) (nl := 4) (As := [(0, 1)]) (R := []) 182 rfl (by decide +kernel) rfl rfl (Nat.le_of_ble_eq_true rfl) (Nat.le_of_ble_eq_true rfl) ?_
  refine hw_mono H ?_
  rintro r ψ1 y1 ⟨hyx, z1, hr, H⟩
  subst hyx
  subst hr
  refine ⟨hne1, ?_⟩
  show hw sc (d + 4) 46 5 [(0, (2, 182))] [(1, z1)] ψ1 y1 Q
  refine hw_lst (L' := (jm_st2 [(0, (2, 182))] 1 (1, z1))) (b := 1) (e := 0) (by decide +kernel) rfl ?_
  refine hw_lld (b := 1) (e := 0) (by decide +kernel) get_st2e ?_
  refine hw_lk (c := 0) (b := 0) (e := 1) (by decide +kernel) ?_
  refine hw_lcmp (w := jm_cmp z1 0) (a0 := 0) (b := 0) (e := 0) (by decide +kernel) rfl ?_
  obtain ⟨hz2, ht2, hf2⟩ := H
  refine hw_if (a0 := 0) (b := 1) (e := 14) (by decide +kernel) hz2 (fun q => ?_) (fun q => ?_)
  · have H := ht2 q
    refine hw_ald (b := 0) (e := 0) (by decide +kernel) (get_st2 rfl (by decide) (by decide) (fun q => tg2 q.2)) (by decide) ?_
    refine hr_gr (w := 1) (b := 7) (e := 0) 182 rfl (by decide +kernel) ?_
    refine hw_ald (b := 0) (e := 0) (by decide +kernel) (get_st2 rfl (by decide) (by decide) (fun q => tg2 q.2)) (by decide) ?_
    refine hr_gr (w := 31) (b := 7) (e := 1) 182 rfl (by decide +kernel) ?_
    refine hw_k (c := 0) (b := 0) (e := 1) (by decide +kernel) ?_
    refine hr_call (a0 := 11) (b := 47) (e := 3) (nl := 4) (As := [(2, 31), (0, 0)]) (R := []) 1 rfl (by decide +kernel) rfl rfl (Nat.le_of_ble_eq_true rfl) (Nat.le_of_ble_eq_true rfl) ?_
    refine hw_mono H ?_
    rintro r ψ3 y3 ⟨hyx, z3, hr, H⟩
    subst hyx
    subst hr
    refine ⟨hne0, ?_⟩
    show hw sc (d + 4) 46 26 (jm_st2 [(0, (2, 182))] 1 (1, z1)) [(0, z3)] ψ3 y3 Q
    refine hw_st (L' := (jm_st1 (jm_st2 [(0, (2, 182))] 1 (1, z1)) 3 (0, z3))) (b := 3) (e := 0) (by decide +kernel) rfl ?_
    refine hw_ld (b := 3) (e := 0) (by decide +kernel) get_st1e ?_
    refine hw_k (c := (-1 : Int)) (b := 0) (e := 1) (by decide +kernel) ?_
    obtain ⟨hz4, hy4, ht4, hf4⟩ := H
    refine hw_if2 (a0 := 0) (b := 1) (e := 34) (by decide +kernel) hz4 hy4 (fun q => ?_) (fun q => ?_)
    · have H := ht4 q
      refine hw_ald (b := 0) (e := 0) (by decide +kernel) (get_st1 (get_st2 rfl (by decide) (by decide) (fun q => tg2 q.2)) (by decide) (fun q => absurd q.1 (by decide))) (by decide) ?_
      refine hr_gr (w := 1) (b := 7) (e := 0) 182 rfl (by decide +kernel) ?_
      refine hr_call (a0 := 11) (b := 29) (e := 1) (nl := 1) (As := []) (R := []) 1 rfl (by decide +kernel) rfl rfl (Nat.le_of_ble_eq_true rfl) (Nat.le_of_ble_eq_true rfl) ?_
      refine hw_mono H ?_
      rintro r ψ5 y5 ⟨hyx, hr, H⟩
      subst hyx
      subst hr
      refine ⟨hnen, ?_⟩
      show hw sc (d + 4) 46 41 (jm_st1 (jm_st2 [(0, (2, 182))] 1 (1, z1)) 3 (0, z3)) [] ψ5 y5 Q
      refine hw_ald (b := 0) (e := 0) (by decide +kernel) (get_st1 (get_st2 rfl (by decide) (by decide) (fun q => tg2 q.2)) (by decide) (fun q => absurd q.1 (by decide))) (by decide) ?_
      refine hr_gr (w := 1) (b := 7) (e := 0) 182 rfl (by decide +kernel) ?_
      refine hw_k (c := 0) (b := 0) (e := 1) (by decide +kernel) ?_
      refine hw_ald (b := 0) (e := 0) (by decide +kernel) (get_st1 (get_st2 rfl (by decide) (by decide) (fun q => tg2 q.2)) (by decide) (fun q => absurd q.1 (by decide))) (by decide) ?_
      refine hr_gr (w := 31) (b := 7) (e := 1) 182 rfl (by decide +kernel) ?_
      refine hr_gr (w := 34) (b := 3) (e := 2) 31 rfl (by decide +kernel) ?_
      refine hw_ld (b := 3) (e := 0) (by decide +kernel) get_st1e ?_
      obtain ⟨hl6, hu6, H⟩ := H
      refine hr_al (b := 0) (a0 := 0) (e := 0) (n := 3) (w := ψ5 34 ((z3).toNat)) 34 rfl (by decide +kernel) (by decide) hl6 hu6 rfl ?_
      refine hw_k (c := 1) (b := 0) (e := 1) (by decide +kernel) ?_
      refine hw_bin (w := (ψ5 34 ((z3).toNat)) - 1) (a0 := 0) (b := 1) (e := 0) (by decide +kernel) rfl ?_
      refine hr_call (a0 := 11) (b := 43) (e := 3) (nl := 3) (As := [(0, 0), (0, (ψ5 34 ((z3).toNat)) - 1)]) (R := []) 1 rfl (by decide +kernel) rfl rfl (Nat.le_of_ble_eq_true rfl) (Nat.le_of_ble_eq_true rfl) ?_
      refine hw_mono H ?_
      rintro r ψ7 y7 ⟨hyx, z7, hr, H⟩
      subst hyx
      subst hr
      refine ⟨hne0, ?_⟩
      show hw sc (d + 4) 46 60 (jm_st1 (jm_st2 [(0, (2, 182))] 1 (1, z1)) 3 (0, z3)) [(0, z7)] ψ7 y7 Q
      refine hw_st (L' := (jm_st1 (jm_st1 (jm_st2 [(0, (2, 182))] 1 (1, z1)) 3 (0, z3)) 4 (0, z7))) (b := 4) (e := 1) (by decide +kernel) rfl ?_
      refine hw_ld (b := 4) (e := 1) (by decide +kernel) get_st1e ?_
      refine hw_k (c := (-1 : Int)) (b := 0) (e := 1) (by decide +kernel) ?_
      obtain ⟨hz8, hy8, ht8, hf8⟩ := H
      refine hw_if2 (a0 := 0) (b := 1) (e := 70) (by decide +kernel) hz8 hy8 (fun q => ?_) (fun q => ?_)
      · have H := ht8 q
        refine hw_ald (b := 0) (e := 0) (by decide +kernel) (get_st1 (get_st1 (get_st2 rfl (by decide) (by decide) (fun q => tg2 q.2)) (by decide) (fun q => absurd q.1 (by decide))) (by decide) (fun q => absurd q.1 (by decide))) (by decide) ?_
        refine hw_ld (b := 3) (e := 0) (by decide +kernel) (get_st1 get_st1e (by decide) (fun q => tg0 q.2)) ?_
        refine hw_ld (b := 4) (e := 1) (by decide +kernel) get_st1e ?_
        refine hr_call (a0 := 17) (b := 48) (e := 3) (nl := 4) (As := [(0, z3), (0, z7)]) (R := []) 182 rfl (by decide +kernel) rfl rfl (Nat.le_of_ble_eq_true rfl) (Nat.le_of_ble_eq_true rfl) ?_
        refine hw_mono H ?_
        rintro r ψ9 y9 ⟨hyx, hψx, z9, hr, H⟩
        subst hyx
        subst hψx
        subst hr
        refine ⟨hne0, ?_⟩
        show hw sc (d + 4) 46 77 (jm_st1 (jm_st1 (jm_st2 [(0, (2, 182))] 1 (1, z1)) 3 (0, z3)) 4 (0, z7)) [(0, z9)] ψ7 y9 Q
        obtain ⟨hz10, ht10, hf10⟩ := H
        refine hw_if (a0 := 0) (b := 0) (e := 89) (by decide +kernel) hz10 (fun q => ?_) (fun q => ?_)
        · have H := ht10 q
          refine hw_ald (b := 0) (e := 0) (by decide +kernel) (get_st1 (get_st1 (get_st2 rfl (by decide) (by decide) (fun q => tg2 q.2)) (by decide) (fun q => absurd q.1 (by decide))) (by decide) (fun q => absurd q.1 (by decide))) (by decide) ?_
          refine hr_gr (w := 1) (b := 7) (e := 0) 182 rfl (by decide +kernel) ?_
          refine hr_call (a0 := 11) (b := 29) (e := 1) (nl := 1) (As := []) (R := []) 1 rfl (by decide +kernel) rfl rfl (Nat.le_of_ble_eq_true rfl) (Nat.le_of_ble_eq_true rfl) ?_
          refine hw_mono H ?_
          rintro r ψ11 y11 ⟨hyx, hr, H⟩
          subst hyx
          subst hr
          refine ⟨hnen, ?_⟩
          show hw sc (d + 4) 46 96 (jm_st1 (jm_st1 (jm_st2 [(0, (2, 182))] 1 (1, z1)) 3 (0, z3)) 4 (0, z7)) [] ψ11 y11 Q
          refine hw_ald (b := 0) (e := 0) (by decide +kernel) (get_st1 (get_st1 (get_st2 rfl (by decide) (by decide) (fun q => tg2 q.2)) (by decide) (fun q => absurd q.1 (by decide))) (by decide) (fun q => absurd q.1 (by decide))) (by decide) ?_
          refine hr_gr (w := 43) (b := 7) (e := 2) 182 rfl (by decide +kernel) ?_
          refine hr_gr (w := 44) (b := 4) (e := 6) 43 rfl (by decide +kernel) ?_
          refine hw_ald (b := 0) (e := 0) (by decide +kernel) (get_st1 (get_st1 (get_st2 rfl (by decide) (by decide) (fun q => tg2 q.2)) (by decide) (fun q => absurd q.1 (by decide))) (by decide) (fun q => absurd q.1 (by decide))) (by decide) ?_
          refine hr_gr (w := 31) (b := 7) (e := 1) 182 rfl (by decide +kernel) ?_
          refine hw_lld (b := 1) (e := 0) (by decide +kernel) (get_st1 (get_st1 get_st2e (by decide) (fun q => absurd q.1 (by decide))) (by decide) (fun q => absurd q.1 (by decide))) ?_
          refine hw_ld (b := 3) (e := 0) (by decide +kernel) (get_st1 get_st1e (by decide) (fun q => tg0 q.2)) ?_
          refine hr_call (a0 := 13) (b := 49) (e := 3) (nl := 5) (As := [(1, z1), (0, z3)]) (R := [(2, 44)]) 31 rfl (by decide +kernel) rfl rfl (Nat.le_of_ble_eq_true rfl) (Nat.le_of_ble_eq_true rfl) ?_
          refine hw_mono H ?_
          rintro r ψ12 y12 ⟨hyx, z12, hr, H⟩
          subst hyx
          subst hr
          refine ⟨hne0, ?_⟩
          show hw sc (d + 4) 46 112 (jm_st1 (jm_st1 (jm_st2 [(0, (2, 182))] 1 (1, z1)) 3 (0, z3)) 4 (0, z7)) [(0, z12), (2, 44)] ψ12 y12 Q
          refine hw_ld (b := 4) (e := 1) (by decide +kernel) get_st1e ?_
          obtain ⟨hl13, hu13, H⟩ := H
          refine hr_as (a0 := 0) (e := 4) (n := 8) 44 rfl (by decide +kernel) hl13 hu13 ?_
          refine hw_k (c := 1) (b := 0) (e := 1) (by decide +kernel) ?_
          exact hw_ret (a0 := 0) (e := 1) (by decide +kernel) (Or.inr ⟨rfl, by decide⟩) H
        · have H := hf10 q
          refine hw_ald (b := 0) (e := 0) (by decide +kernel) (get_st1 (get_st1 (get_st2 rfl (by decide) (by decide) (fun q => tg2 q.2)) (by decide) (fun q => absurd q.1 (by decide))) (by decide) (fun q => absurd q.1 (by decide))) (by decide) ?_
          refine hr_gr (w := 1) (b := 7) (e := 0) 182 rfl (by decide +kernel) ?_
          refine hw_k (c := 3) (b := 0) (e := 1) (by decide +kernel) ?_
          refine hr_call (a0 := 11) (b := 37) (e := 2) (nl := 2) (As := [(0, 3)]) (R := []) 1 rfl (by decide +kernel) rfl rfl (Nat.le_of_ble_eq_true rfl) (Nat.le_of_ble_eq_true rfl) ?_
          refine hw_mono H ?_
          rintro r ψ15 y15 ⟨hyx, z15, hr, H⟩
          subst hyx
          subst hr
          refine ⟨hne0, ?_⟩
          show hw sc (d + 4) 46 88 (jm_st1 (jm_st1 (jm_st2 [(0, (2, 182))] 1 (1, z1)) 3 (0, z3)) 4 (0, z7)) [(0, z15)] ψ15 y15 Q
          exact hw_ret (a0 := 0) (e := 1) (by decide +kernel) (Or.inr ⟨rfl, H.1⟩) H.2
      · have H := hf8 q
        refine hw_k (c := 0) (b := 0) (e := 1) (by decide +kernel) ?_
        exact hw_ret (a0 := 0) (e := 1) (by decide +kernel) (Or.inr ⟨rfl, by decide⟩) H
    · have H := hf4 q
      refine hw_k (c := 0) (b := 0) (e := 1) (by decide +kernel) ?_
      exact hw_ret (a0 := 0) (e := 1) (by decide +kernel) (Or.inr ⟨rfl, by decide⟩) H
  · have H := hf2 q
    refine hw_k (c := 0) (b := 0) (e := 1) (by decide +kernel) ?_
    exact hw_ret (a0 := 0) (e := 1) (by decide +kernel) (Or.inr ⟨rfl, by decide⟩) H
theorem sf_46_182 {sc : List Int} {d : Nat} {φ : hf_F} {x : Nat} {Q : Option jm_V → hf_F → Nat → Prop}  (hI : Inv φ)  (hQ : ∀ (r : Int) (ψ : hf_F), Inv ψ → Fr [32, 33, 36, 37, 38, 44, 2004, 2005, 2006, 2007, 2008, 2009, 2010] φ ψ → 0 ≤ r ∧ r ≤ 1 → F_RideText_readSeat_182 φ = (r, ψ) → Q (some (0, r)) ψ x) : hw sc (d + 4) 46 0 [(0, (2, 182))] [] φ x Q := by
  apply sf_46_182_v
  have e0 : F_RideText_readSeat_182 φ = _ := rfl
  refine sf_39_182_k1_1 (φ := φ) hI  (fun z1 ψ1 hI1 hF1 hp1 hE1 => ⟨rfl, z1, rfl, ?_⟩)
  have hG1 : Fr [32, 33, 36, 37, 38, 44, 2004, 2005, 2006, 2007, 2008, 2009, 2010] φ ψ1 := fr_tr (fr_rf) hF1 (by decide)
  have f1 := iv_at (a := 32) (k := 1) (lo := 0) (u := 8) hI (by decide +kernel)
  have e1 := e0.trans (bnd_e hE1)
  have f2 := hr_cmp z1 0
  have f3 := hr_cmp0 z1
  refine ⟨by unfold hi; omega, fun q2 => ?_, fun q2 => ?_⟩
  · skip
    have e2a := e1.trans (if_pos q2)
    refine sf_47_1_31_k2_0 (φ := ψ1) hI1  (fun z3 ψ3 hI3 hF3 hp3 hE3 => ⟨rfl, z3, rfl, ?_⟩)
    have hG3 : Fr [32, 33, 36, 37, 38, 44, 2004, 2005, 2006, 2007, 2008, 2009, 2010] φ ψ3 := fr_tr hG1 hF3 (by decide)
    have f4 := iv_at (a := 32) (k := 0) (lo := 0) (u := 3) hI1 (by decide +kernel)
    have f5 : ψ1 32 0 = φ 32 0 := (fr_at hF1 32 (by decide) 0)
    have f6 := iv_at (a := 32) (k := 0) (lo := 0) (u := 3) hI (by decide +kernel)
    have e3 := e2a.trans (bnd_e hE3)
    refine ⟨by unfold hi; omega, by unfold hi; omega, fun q4 => ?_, fun q4 => ?_⟩
    · skip
      have e4a := e3.trans (if_pos q4)
      refine sf_29_1 (φ := ψ3) hI3  (fun ψ5 hI5 hF5 hE5 => ⟨rfl, rfl, ?_⟩)
      have hG5 : Fr [32, 33, 36, 37, 38, 44, 2004, 2005, 2006, 2007, 2008, 2009, 2010] φ ψ5 := fr_tr hG3 hF5 (by decide)
      have e5 := e4a.trans (bnv_e hE5)
      refine ⟨by omega, by omega, ?_⟩
      have f7 := iv_ar (a := 34) (s := 0) (t := 3) (lo := 0) (u := 30) (z := z3) hI5 (by decide +kernel) (by omega) (by omega)
      have f8 : ψ5 34 ((z3).toNat) = ψ3 34 ((z3).toNat) := (fr_at hF5 34 (by decide) ((z3).toNat))
      have f9 := iv_ar (a := 34) (s := 0) (t := 3) (lo := 0) (u := 30) (z := z3) hI3 (by decide +kernel) (by omega) (by omega)
      have f10 : ψ3 34 ((z3).toNat) = ψ1 34 ((z3).toNat) := (fr_at hF3 34 (by decide) ((z3).toNat))
      have f11 := iv_ar (a := 34) (s := 0) (t := 3) (lo := 0) (u := 30) (z := z3) hI1 (by decide +kernel) (by omega) (by omega)
      have f12 : ψ1 34 ((z3).toNat) = φ 34 ((z3).toNat) := (fr_at hF1 34 (by decide) ((z3).toNat))
      have f13 := iv_ar (a := 34) (s := 0) (t := 3) (lo := 0) (u := 30) (z := z3) hI (by decide +kernel) (by omega) (by omega)
      refine sf_43_1 (φ := ψ5) hI5 (by omega) (by omega) (by omega) (by omega) (fun z7 ψ7 hI7 hF7 hp7 hE7 => ⟨rfl, z7, rfl, ?_⟩)
      have hG7 : Fr [32, 33, 36, 37, 38, 44, 2004, 2005, 2006, 2007, 2008, 2009, 2010] φ ψ7 := fr_tr hG5 hF7 (by decide)
      have e7 := e5.trans (bnd_e hE7)
      refine ⟨by unfold hi; omega, by unfold hi; omega, fun q8 => ?_, fun q8 => ?_⟩
      · skip
        have e8a := e7.trans (if_pos q8)
        refine sf_48_182 (φ := ψ7) hI7 (by omega) (by omega) (by omega) (by omega) (fun z9 hp9 hE9 => ⟨rfl, rfl, z9, rfl, ?_⟩)
        have e9 := e8a.trans (bnp_e hE9)
        refine ⟨by unfold hi; omega, fun q10 => ?_, fun q10 => ?_⟩
        · skip
          have e10a := e9.trans (if_pos q10)
          refine sf_29_1 (φ := ψ7) hI7  (fun ψ11 hI11 hF11 hE11 => ⟨rfl, rfl, ?_⟩)
          have hG11 : Fr [32, 33, 36, 37, 38, 44, 2004, 2005, 2006, 2007, 2008, 2009, 2010] φ ψ11 := fr_tr hG7 hF11 (by decide)
          have e11 := e10a.trans (bnv_e hE11)
          have f14 := iv_at (a := 32) (k := 1) (lo := 0) (u := 8) hI11 (by decide +kernel)
          have f15 : ψ11 32 1 = ψ7 32 1 := (fr_at hF11 32 (by decide) 1)
          have f16 := iv_at (a := 32) (k := 1) (lo := 0) (u := 8) hI7 (by decide +kernel)
          have f17 : ψ7 32 1 = ψ5 32 1 := (fr_at hF7 32 (by decide) 1)
          have f18 := iv_at (a := 32) (k := 1) (lo := 0) (u := 8) hI5 (by decide +kernel)
          have f19 : ψ5 32 1 = ψ3 32 1 := (fr_at hF5 32 (by decide) 1)
          have f20 := iv_at (a := 32) (k := 1) (lo := 0) (u := 8) hI3 (by decide +kernel)
          have f21 : ψ3 32 1 = ψ1 32 1 := (fr_at hF3 32 (by decide) 1)
          have f22 := iv_at (a := 32) (k := 1) (lo := 0) (u := 8) hI1 (by decide +kernel)
          have f23 : ψ1 32 1 = φ 32 1 := (fr_at hF1 32 (by decide) 1)
          refine sf_49_31 (φ := ψ11) hI11 (by omega) (by omega) (by rw [show ψ11 32 1 = ψ11 32 1 from rfl]; constructor <;> omega) (fun z12 ψ12 hI12 hF12 hp12 hE12 => ⟨rfl, z12, rfl, ?_⟩)
          have hG12 : Fr [32, 33, 36, 37, 38, 44, 2004, 2005, 2006, 2007, 2008, 2009, 2010] φ ψ12 := fr_tr hG11 hF12 (by decide)
          have e12 := e11.trans (bnd_e hE12)
          refine ⟨by omega, by omega, ?_⟩
          have i24 : Inv (hf_up ψ12 44 ((z12).toNat) z7) := iv_upIn hI12 (by decide) (by decide +kernel)
          have r24 : Fr [32, 33, 36, 37, 38, 44, 2004, 2005, 2006, 2007, 2008, 2009, 2010] φ (hf_up ψ12 44 ((z12).toNat) z7) := fr_upa hG12 (by decide)
          exact hQ 1 (hf_up ψ12 44 ((z12).toNat) z7) i24 r24 ⟨by omega, by omega⟩ e12
        · skip
          have e10b := e9.trans (if_neg q10)
          refine sf_37_1 (φ := ψ7) hI7 (by omega) (by omega) (fun z15 ψ15 hI15 hF15 hp15 hE15 => ⟨rfl, z15, rfl, ?_⟩)
          have hG15 : Fr [32, 33, 36, 37, 38, 44, 2004, 2005, 2006, 2007, 2008, 2009, 2010] φ ψ15 := fr_tr hG7 hF15 (by decide)
          have e15 := e10b.trans (bnd_e hE15)
          refine ⟨by omega, ?_⟩
          exact hQ z15 ψ15 hI15 hG15 ⟨by omega, by omega⟩ e15
      · skip
        have e8b := e7.trans (if_neg q8)
        exact hQ 0 ψ7 hI7 hG7 ⟨by omega, by omega⟩ e8b
    · skip
      have e4b := e3.trans (if_neg q4)
      exact hQ 0 ψ3 hI3 hG3 ⟨by omega, by omega⟩ e4b
  · skip
    have e2b := e1.trans (if_neg q2)
    exact hQ 0 ψ1 hI1 hG1 ⟨by omega, by omega⟩ e2b
theorem sf_40_31_k1_3_v {sc : List Int} {d : Nat} {φ : hf_F} {x : Nat} {Q : Option jm_V → hf_F → Nat → Prop} 
    (H : hi (φ 32 3) ∧ hi 6 ∧ ((φ 32 3) < 6 → Q (some (0, 0)) φ x) ∧ (¬ (φ 32 3) < 6 → Q (some (0, 1)) φ x)) :
    hw sc d 40 0 [(0, (2, 31)), (1, (0, 3))] [] φ x Q := by
  refine hw_ald (b := 0) (e := 0) (by decide +kernel) rfl (by decide) ?_
  refine hr_gr (w := 32) (b := 3) (e := 0) 31 rfl (by decide +kernel) ?_
  refine hw_ld (b := 1) (e := 0) (by decide +kernel) rfl ?_
  refine hr_al (b := 0) (a0 := 0) (e := 0) (n := 5) (w := φ 32 3) 32 rfl (by decide +kernel) (by decide) (by decide) (by decide) rfl ?_
  refine hw_gm (a0 := 0) (e := 0) (by decide +kernel) ?_
  refine hw_ld (b := 1) (e := 0) (by decide +kernel) rfl ?_
  refine hw_mo (n := 3) (w := 6) (a0 := 0) (e := 0) (by decide +kernel) (by decide +kernel) (by decide +kernel) ?_
  obtain ⟨hz1, hy1, ht1, hf1⟩ := H
  refine hw_if2 (a0 := 0) (b := 2) (e := 18) (by decide +kernel) hz1 hy1 (fun q => ?_) (fun q => ?_)
  · have H := ht1 q
    refine hw_k (c := 0) (b := 0) (e := 1) (by decide +kernel) ?_
    exact hw_ret (a0 := 0) (e := 1) (by decide +kernel) (Or.inr ⟨rfl, by decide⟩) H
  · have H := hf1 q
    refine hw_k (c := 1) (b := 0) (e := 1) (by decide +kernel) ?_
    refine hw_goto (a0 := 0) (b := 0) (e := 19) (by decide +kernel) ?_
    exact hw_ret (a0 := 0) (e := 1) (by decide +kernel) (Or.inr ⟨rfl, by decide⟩) H
theorem sf_40_31_k1_3 {sc : List Int} {d : Nat} {φ : hf_F} {x : Nat} {Q : Option jm_V → hf_F → Nat → Prop}  (hI : Inv φ)  (hQ : ∀ (r : Int), 0 ≤ r ∧ r ≤ 1 ∧ (r = 0 → φ 32 3 ≤ 5) → F_Plan_isFull_31_k1_3 φ = r → Q (some (0, r)) φ x) : hw sc d 40 0 [(0, (2, 31)), (1, (0, 3))] [] φ x Q := by
  apply sf_40_31_k1_3_v
  have e0 : F_Plan_isFull_31_k1_3 φ = _ := rfl
  have f1 := iv_at (a := 32) (k := 3) (lo := 0) (u := 6) hI (by decide +kernel)
  refine ⟨by unfold hi; omega, by unfold hi; omega, fun q1 => ?_, fun q1 => ?_⟩
  · skip
    have e1a := e0.trans (if_pos q1)
    exact hQ 0 ⟨by omega, by omega, by omega⟩ e1a
  · skip
    have e1b := e0.trans (if_neg q1)
    exact hQ 1 ⟨by omega, by omega, by omega⟩ e1b
theorem sf_39_182_k1_3_v {sc : List Int} {d : Nat} {φ : hf_F} {x : Nat} {Q : Option jm_V → hf_F → Nat → Prop} 
    (H : hw sc (d + 2) 40 0 [(0, (2, 31)), (1, (0, 3))] [] φ x (fun r ψ1 y1 => y1 = x ∧ φ = ψ1 ∧ (∃ z1 : Int, r = some (0, z1) ∧ (hi z1 ∧ (z1 = 0 → hw sc (d + 2) 29 0 [(0, (2, 1))] [] φ x (fun r ψ3 y3 => y3 = x ∧ (r = none ∧ (hi (ψ3 1 5) ∧ hi 2 ∧ ((ψ3 1 5) = 2 → hw sc (d + 2) 41 0 [(0, (2, 31)), (1, (1, ψ3 1 8))] [] ψ3 x (fun r ψ5 y5 => y5 = x ∧ ψ3 = ψ5 ∧ (∃ z5 : Int, r = some (0, z5) ∧ (hi z5 ∧ (z5 = 0 → hw sc (d + 2) 29 0 [(0, (2, 1))] [] ψ3 x (fun r ψ7 y7 => y7 = x ∧ (r = none ∧ (Q (some (1, ψ3 1 8)) ψ7 x)))) ∧ (¬ z5 = 0 → hw sc (d + 2) 37 0 [(0, (2, 1)), (1, (0, 3))] [] ψ3 x (fun r ψ9 y9 => y9 = x ∧ (∃ z9 : Int, r = some (0, z9) ∧ (Q (some (1, 0)) ψ9 x)))))))) ∧ (¬ (ψ3 1 5) = 2 → hw sc (d + 2) 37 0 [(0, (2, 1)), (1, (0, 1))] [] ψ3 x (fun r ψ11 y11 => y11 = x ∧ (∃ z11 : Int, r = some (0, z11) ∧ (Q (some (1, 0)) ψ11 x)))))))) ∧ (¬ z1 = 0 → hw sc (d + 2) 37 0 [(0, (2, 1)), (1, (0, 4))] [] φ x (fun r ψ13 y13 => y13 = x ∧ (∃ z13 : Int, r = some (0, z13) ∧ (Q (some (1, 0)) ψ13 x)))))))) :
    hw sc (d + 3) 39 0 [(0, (2, 182)), (1, (0, 3))] [] φ x Q := by
  refine hw_ald (b := 0) (e := 0) (by decide +kernel) rfl (by decide) ?_
  refine hr_gr (w := 31) (b := 7) (e := 1) 182 rfl (by decide +kernel) ?_
  refine hw_ld (b := 1) (e := 0) (by decide +kernel) rfl ?_
  refine hr_call (a0 := 13) (b := 40) (e := 2) (nl := 2) (As := [(0, 3)]) (R := []) 31 rfl (by decide +kernel) rfl rfl (Nat.le_of_ble_eq_true rfl) (Nat.le_of_ble_eq_true rfl) ?_
  refine hw_mono H ?_
  rintro r ψ1 y1 ⟨hyx, hψx, z1, hr, H⟩
  subst hyx
  subst hψx
  subst hr
  refine ⟨hne0, ?_⟩
  show hw sc (d + 3) 39 8 [(0, (2, 182)), (1, (0, 3))] [(0, z1)] φ y1 Q
  obtain ⟨hz2, ht2, hf2⟩ := H
  refine hw_if (a0 := 0) (b := 0) (e := 22) (by decide +kernel) hz2 (fun q => ?_) (fun q => ?_)
  · have H := ht2 q
    refine hw_ald (b := 0) (e := 0) (by decide +kernel) rfl (by decide) ?_
    refine hr_gr (w := 1) (b := 7) (e := 0) 182 rfl (by decide +kernel) ?_
    refine hr_call (a0 := 11) (b := 29) (e := 1) (nl := 1) (As := []) (R := []) 1 rfl (by decide +kernel) rfl rfl (Nat.le_of_ble_eq_true rfl) (Nat.le_of_ble_eq_true rfl) ?_
    refine hw_mono H ?_
    rintro r ψ3 y3 ⟨hyx, hr, H⟩
    subst hyx
    subst hr
    refine ⟨hnen, ?_⟩
    show hw sc (d + 3) 39 29 [(0, (2, 182)), (1, (0, 3))] [] ψ3 y3 Q
    refine hw_ald (b := 0) (e := 0) (by decide +kernel) rfl (by decide) ?_
    refine hr_gr (w := 1) (b := 7) (e := 0) 182 rfl (by decide +kernel) ?_
    refine hr_gi (w := ψ3 1 5) (b := 1) (e := 5) 1 rfl (by decide +kernel) rfl ?_
    refine hw_k (c := 2) (b := 0) (e := 1) (by decide +kernel) ?_
    obtain ⟨hz4, hy4, ht4, hf4⟩ := H
    refine hw_if2 (a0 := 0) (b := 0) (e := 51) (by decide +kernel) hz4 hy4 (fun q => ?_) (fun q => ?_)
    · have H := ht4 q
      refine hw_ald (b := 0) (e := 0) (by decide +kernel) rfl (by decide) ?_
      refine hr_gr (w := 31) (b := 7) (e := 1) 182 rfl (by decide +kernel) ?_
      refine hw_ald (b := 0) (e := 0) (by decide +kernel) rfl (by decide) ?_
      refine hr_gr (w := 1) (b := 7) (e := 0) 182 rfl (by decide +kernel) ?_
      refine hr_gl (w := ψ3 1 8) (b := 1) (e := 8) 1 rfl (by decide +kernel) rfl ?_
      refine hr_call (a0 := 13) (b := 41) (e := 2) (nl := 4) (As := [(1, ψ3 1 8)]) (R := []) 31 rfl (by decide +kernel) rfl rfl (Nat.le_of_ble_eq_true rfl) (Nat.le_of_ble_eq_true rfl) ?_
      refine hw_mono H ?_
      rintro r ψ5 y5 ⟨hyx, hψx, z5, hr, H⟩
      subst hyx
      subst hψx
      subst hr
      refine ⟨hne0, ?_⟩
      show hw sc (d + 3) 39 65 [(0, (2, 182)), (1, (0, 3))] [(0, z5)] ψ3 y5 Q
      obtain ⟨hz6, ht6, hf6⟩ := H
      refine hw_if (a0 := 0) (b := 0) (e := 79) (by decide +kernel) hz6 (fun q => ?_) (fun q => ?_)
      · have H := ht6 q
        refine hw_ald (b := 0) (e := 0) (by decide +kernel) rfl (by decide) ?_
        refine hr_gr (w := 1) (b := 7) (e := 0) 182 rfl (by decide +kernel) ?_
        refine hr_gl (w := ψ3 1 8) (b := 1) (e := 8) 1 rfl (by decide +kernel) rfl ?_
        refine hw_lst (L' := (jm_st2 [(0, (2, 182)), (1, (0, 3))] 2 (1, ψ3 1 8))) (b := 2) (e := 0) (by decide +kernel) rfl ?_
        refine hw_ald (b := 0) (e := 0) (by decide +kernel) (get_st2 rfl (by decide) (by decide) (fun q => absurd q.1 (by decide))) (by decide) ?_
        refine hr_gr (w := 1) (b := 7) (e := 0) 182 rfl (by decide +kernel) ?_
        refine hr_call (a0 := 11) (b := 29) (e := 1) (nl := 1) (As := []) (R := []) 1 rfl (by decide +kernel) rfl rfl (Nat.le_of_ble_eq_true rfl) (Nat.le_of_ble_eq_true rfl) ?_
        refine hw_mono H ?_
        rintro r ψ7 y7 ⟨hyx, hr, H⟩
        subst hyx
        subst hr
        refine ⟨hnen, ?_⟩
        show hw sc (d + 3) 39 94 (jm_st2 [(0, (2, 182)), (1, (0, 3))] 2 (1, ψ3 1 8)) [] ψ7 y7 Q
        refine hw_lld (b := 2) (e := 0) (by decide +kernel) get_st2e ?_
        exact hw_lret (a0 := 0) (e := 4) (by decide +kernel) H
      · have H := hf6 q
        refine hw_ald (b := 0) (e := 0) (by decide +kernel) rfl (by decide) ?_
        refine hr_gr (w := 1) (b := 7) (e := 0) 182 rfl (by decide +kernel) ?_
        refine hw_k (c := 3) (b := 0) (e := 1) (by decide +kernel) ?_
        refine hr_call (a0 := 11) (b := 37) (e := 2) (nl := 2) (As := [(0, 3)]) (R := []) 1 rfl (by decide +kernel) rfl rfl (Nat.le_of_ble_eq_true rfl) (Nat.le_of_ble_eq_true rfl) ?_
        refine hw_mono H ?_
        rintro r ψ9 y9 ⟨hyx, z9, hr, H⟩
        subst hyx
        subst hr
        refine ⟨hne0, ?_⟩
        show hw sc (d + 3) 39 76 [(0, (2, 182)), (1, (0, 3))] [(0, z9)] ψ9 y9 Q
        refine hw_pop (a0 := 0) (e := 0) (by decide +kernel) (by decide) ?_
        refine hw_lk (c := 0) (b := 0) (e := 1) (by decide +kernel) ?_
        exact hw_lret (a0 := 0) (e := 4) (by decide +kernel) H
    · have H := hf4 q
      refine hw_ald (b := 0) (e := 0) (by decide +kernel) rfl (by decide) ?_
      refine hr_gr (w := 1) (b := 7) (e := 0) 182 rfl (by decide +kernel) ?_
      refine hw_k (c := 1) (b := 0) (e := 1) (by decide +kernel) ?_
      refine hr_call (a0 := 11) (b := 37) (e := 2) (nl := 2) (As := [(0, 1)]) (R := []) 1 rfl (by decide +kernel) rfl rfl (Nat.le_of_ble_eq_true rfl) (Nat.le_of_ble_eq_true rfl) ?_
      refine hw_mono H ?_
      rintro r ψ11 y11 ⟨hyx, z11, hr, H⟩
      subst hyx
      subst hr
      refine ⟨hne0, ?_⟩
      show hw sc (d + 3) 39 48 [(0, (2, 182)), (1, (0, 3))] [(0, z11)] ψ11 y11 Q
      refine hw_pop (a0 := 0) (e := 0) (by decide +kernel) (by decide) ?_
      refine hw_lk (c := 0) (b := 0) (e := 1) (by decide +kernel) ?_
      exact hw_lret (a0 := 0) (e := 4) (by decide +kernel) H
  · have H := hf2 q
    refine hw_ald (b := 0) (e := 0) (by decide +kernel) rfl (by decide) ?_
    refine hr_gr (w := 1) (b := 7) (e := 0) 182 rfl (by decide +kernel) ?_
    refine hw_k (c := 4) (b := 0) (e := 1) (by decide +kernel) ?_
    refine hr_call (a0 := 11) (b := 37) (e := 2) (nl := 2) (As := [(0, 4)]) (R := []) 1 rfl (by decide +kernel) rfl rfl (Nat.le_of_ble_eq_true rfl) (Nat.le_of_ble_eq_true rfl) ?_
    refine hw_mono H ?_
    rintro r ψ13 y13 ⟨hyx, z13, hr, H⟩
    subst hyx
    subst hr
    refine ⟨hne0, ?_⟩
    show hw sc (d + 3) 39 19 [(0, (2, 182)), (1, (0, 3))] [(0, z13)] ψ13 y13 Q
    refine hw_pop (a0 := 0) (e := 0) (by decide +kernel) (by decide) ?_
    refine hw_lk (c := 0) (b := 0) (e := 1) (by decide +kernel) ?_
    exact hw_lret (a0 := 0) (e := 4) (by decide +kernel) H
theorem sf_39_182_k1_3 {sc : List Int} {d : Nat} {φ : hf_F} {x : Nat} {Q : Option jm_V → hf_F → Nat → Prop}  (hI : Inv φ)  (hQ : ∀ (r : Int) (ψ : hf_F), Inv ψ → Fr [2004, 2005, 2006, 2007, 2008, 2009, 2010] φ ψ → True ∧ (¬ r = 0 → φ 32 3 ≤ 5) → F_RideText_readNew_182_k1_3 φ = (r, ψ) → Q (some (1, r)) ψ x) : hw sc (d + 3) 39 0 [(0, (2, 182)), (1, (0, 3))] [] φ x Q := by
  apply sf_39_182_k1_3_v
  have e0 : F_RideText_readNew_182_k1_3 φ = _ := rfl
  refine sf_40_31_k1_3 (φ := φ) hI  (fun z1 hp1 hE1 => ⟨rfl, rfl, z1, rfl, ?_⟩)
  have e1 := e0.trans (bnp_e hE1)
  have f1 := iv_at (a := 32) (k := 3) (lo := 0) (u := 6) hI (by decide +kernel)
  refine ⟨by unfold hi; omega, fun q2 => ?_, fun q2 => ?_⟩
  · skip
    have e2a := e1.trans (if_pos q2)
    refine sf_29_1 (φ := φ) hI  (fun ψ3 hI3 hF3 hE3 => ⟨rfl, rfl, ?_⟩)
    have hG3 : Fr [2004, 2005, 2006, 2007, 2008, 2009, 2010] φ ψ3 := fr_tr (fr_rf) hF3 (by decide)
    have e3 := e2a.trans (bnv_e hE3)
    have f2 := iv_at (a := 1) (k := 5) (lo := 0) (u := 5) hI3 (by decide +kernel)
    refine ⟨by unfold hi; omega, by unfold hi; omega, fun q4 => ?_, fun q4 => ?_⟩
    · skip
      have e4a := e3.trans (if_pos q4)
      refine sf_41_31 (φ := ψ3) hI3  (fun z5 hp5 hE5 => ⟨rfl, rfl, z5, rfl, ?_⟩)
      have e5 := e4a.trans (bnp_e hE5)
      refine ⟨by unfold hi; omega, fun q6 => ?_, fun q6 => ?_⟩
      · skip
        have e6a := e5.trans (if_pos q6)
        refine sf_29_1 (φ := ψ3) hI3  (fun ψ7 hI7 hF7 hE7 => ⟨rfl, rfl, ?_⟩)
        have hG7 : Fr [2004, 2005, 2006, 2007, 2008, 2009, 2010] φ ψ7 := fr_tr hG3 hF7 (by decide)
        have e7 := e6a.trans (bnv_e hE7)
        exact hQ (ψ3 1 8) ψ7 hI7 hG7 ⟨trivial, by omega⟩ e7
      · skip
        have e6b := e5.trans (if_neg q6)
        refine sf_37_1 (φ := ψ3) hI3 (by omega) (by omega) (fun z9 ψ9 hI9 hF9 hp9 hE9 => ⟨rfl, z9, rfl, ?_⟩)
        have hG9 : Fr [2004, 2005, 2006, 2007, 2008, 2009, 2010] φ ψ9 := fr_tr hG3 hF9 (by decide)
        have e9 := e6b.trans (bnd_e hE9)
        exact hQ (0) ψ9 hI9 hG9 ⟨trivial, by omega⟩ e9
    · skip
      have e4b := e3.trans (if_neg q4)
      refine sf_37_1 (φ := ψ3) hI3 (by omega) (by omega) (fun z11 ψ11 hI11 hF11 hp11 hE11 => ⟨rfl, z11, rfl, ?_⟩)
      have hG11 : Fr [2004, 2005, 2006, 2007, 2008, 2009, 2010] φ ψ11 := fr_tr hG3 hF11 (by decide)
      have e11 := e4b.trans (bnd_e hE11)
      exact hQ (0) ψ11 hI11 hG11 ⟨trivial, by omega⟩ e11
  · skip
    have e2b := e1.trans (if_neg q2)
    refine sf_37_1 (φ := φ) hI (by omega) (by omega) (fun z13 ψ13 hI13 hF13 hp13 hE13 => ⟨rfl, z13, rfl, ?_⟩)
    have hG13 : Fr [2004, 2005, 2006, 2007, 2008, 2009, 2010] φ ψ13 := fr_tr (fr_rf) hF13 (by decide)
    have e13 := e2b.trans (bnd_e hE13)
    exact hQ (0) ψ13 hI13 hG13 ⟨trivial, by omega⟩ e13
theorem sf_42_31_k1_1_v3 {sc : List Int} {d : Nat} {φ : hf_F} {x : Nat} {Q : Option jm_V → hf_F → Nat → Prop} {L : jm_L} {l2 l4 : Int} (g0 : jm_get L 0 = some (2, 31)) (g1 : jm_get L 1 = some (0, 1)) (g2 : jm_get L 2 = some (1, l2)) (g4 : jm_get L 4 = some (0, l4))
    (H : hi l4 ∧ hi (φ 32 1) ∧ ((φ 32 1) ≤ l4 → Q (some (0, (-1 : Int))) φ x) ∧ (¬ (φ 32 1) ≤ l4 → 0 ≤ (8 + l4) ∧ (8 + l4) < 40 ∧ (hi (jm_cmp (φ 33 ((8 + l4).toNat)) l2) ∧ (¬ (jm_cmp (φ 33 ((8 + l4).toNat)) l2) = 0 → hw sc d 42 3 (jm_st1 L 4 (0, l4 + 1)) [] φ x Q) ∧ (¬ (¬ (jm_cmp (φ 33 ((8 + l4).toNat)) l2) = 0) → Q (some (0, l4)) φ x)))) :
    hw sc d 42 3 L [] φ x Q := by
  refine hw_ld (b := 4) (e := 1) (by decide +kernel) g4 ?_
  refine hw_ald (b := 0) (e := 0) (by decide +kernel) g0 (by decide) ?_
  refine hr_gr (w := 32) (b := 3) (e := 0) 31 rfl (by decide +kernel) ?_
  refine hw_ld (b := 1) (e := 0) (by decide +kernel) g1 ?_
  refine hr_al (b := 0) (a0 := 0) (e := 0) (n := 5) (w := φ 32 1) 32 rfl (by decide +kernel) (by decide) (by decide) (by decide) rfl ?_
  obtain ⟨hz1, hy1, ht1, hf1⟩ := H
  refine hw_if2 (a0 := 0) (b := 3) (e := 40) (by decide +kernel) hz1 hy1 (fun q => ?_) (fun q => ?_)
  · have H := ht1 q
    refine hw_k (c := (-1 : Int)) (b := 0) (e := 1) (by decide +kernel) ?_
    exact hw_ret (a0 := 0) (e := 0) (by decide +kernel) (Or.inl rfl) H
  · have H := hf1 q
    refine hw_ald (b := 0) (e := 0) (by decide +kernel) g0 (by decide) ?_
    refine hr_gr (w := 33) (b := 3) (e := 1) 31 rfl (by decide +kernel) ?_
    refine hw_ld (b := 1) (e := 0) (by decide +kernel) g1 ?_
    refine hw_k (c := 8) (b := 1) (e := 2) (by decide +kernel) ?_
    refine hw_bin (w := 8) (a0 := 0) (b := 2) (e := 0) (by decide +kernel) rfl ?_
    refine hw_ld (b := 4) (e := 1) (by decide +kernel) g4 ?_
    refine hw_bin (w := 8 + l4) (a0 := 0) (b := 0) (e := 0) (by decide +kernel) rfl ?_
    obtain ⟨hl3, hu3, H⟩ := H
    refine hr_all (a0 := 0) (e := 0) (n := 40) (w := φ 33 ((8 + l4).toNat)) 33 rfl (by decide +kernel) hl3 hu3 rfl ?_
    refine hw_lld (b := 2) (e := 0) (by decide +kernel) g2 ?_
    refine hw_lcmp (w := jm_cmp (φ 33 ((8 + l4).toNat)) l2) (a0 := 0) (b := 0) (e := 0) (by decide +kernel) rfl ?_
    obtain ⟨hz4, ht4, hf4⟩ := H
    refine hw_if (a0 := 0) (b := 1) (e := 34) (by decide +kernel) hz4 (fun q => ?_) (fun q => ?_)
    · have H := ht4 q
      refine hw_inc (L' := (jm_st1 L 4 (0, l4 + 1))) (c := 1) (b := 4) (e := 0) (by decide +kernel) g4 rfl ?_
      refine hw_goto (a0 := 0) (b := 0) (e := 3) (by decide +kernel) ?_
      exact H
    · have H := hf4 q
      refine hw_ld (b := 4) (e := 1) (by decide +kernel) g4 ?_
      exact hw_ret (a0 := 0) (e := 0) (by decide +kernel) (Or.inl rfl) H
theorem sf_42_31_k1_1_l3 {sc : List Int} {d x : Nat} {Q : Option jm_V → hf_F → Nat → Prop} : ∀ (n : Nat) (φ : hf_F) (L : jm_L) (l2 l4 : Int), jm_get L 0 = some (2, 31) → jm_get L 1 = some (0, 1) → jm_get L 2 = some (1, l2) → jm_get L 4 = some (0, l4) → Inv φ → 8 - l4 < (n : Int) → 0 ≤ l4 → l4 ≤ 8 → (∀ (r : Int), (-1 : Int) ≤ r ∧ r ≤ 7 ∧ (r = -1 ∨ (0 ≤ r ∧ r < φ 32 1 ∧ φ 32 1 ≤ 8)) → F_Plan_numberOf_31_k1_1_l3 n φ l2 l4 = r → Q (some (0, r)) φ x) → hw sc d 42 3 L [] φ x Q := by
  intro n
  induction n with
  | zero =>
    intro φ L l2 l4 g0 g1 g2 g4 hI hM b4a b4b hQ
    exfalso
    omega
  | succ n ih =>
    intro φ L l2 l4 g0 g1 g2 g4 hI hM b4a b4b hQ
    refine sf_42_31_k1_1_v3 g0 g1 g2 g4 ?_
    have e0 := F_Plan_numberOf_31_k1_1_l3_s (φ := φ) (l2 := l2) (l4 := l4) n
    have f1 := iv_at (a := 32) (k := 1) (lo := 0) (u := 8) hI (by decide +kernel)
    refine ⟨by unfold hi; omega, by unfold hi; omega, fun q1 => ?_, fun q1 => ?_⟩
    · skip
      have e1a := e0.trans (if_pos q1)
      exact hQ (-1 : Int) ⟨by omega, by omega, by omega⟩ e1a
    · skip
      have e1b := e0.trans (if_neg q1)
      refine ⟨by omega, by omega, ?_⟩
      have f2 := hr_cmp (φ 33 ((8 + l4).toNat)) l2
      refine ⟨by unfold hi; omega, fun q4 => ?_, fun q4 => ?_⟩
      · skip
        have e4a := e1b.trans (if_pos q4)
        exact ih φ (jm_st1 L 4 (0, l4 + 1)) l2 (l4 + 1) (get_st1 g0 (by decide) (fun q => absurd q.1 (by decide))) (get_st1 g1 (by decide) (fun q => absurd q.1 (by decide))) (get_st1 g2 (by decide) (fun q => absurd q.1 (by decide))) get_st1e hI (by omega) (by omega) (by omega) (fun rr hpχ hEχ => hQ rr hpχ (e4a.trans hEχ))
      · skip
        have e4b := e1b.trans (if_neg q4)
        exact hQ l4 ⟨by omega, by omega, by omega⟩ e4b
theorem sf_42_31_k1_1_v {sc : List Int} {d : Nat} {φ : hf_F} {x : Nat} {Q : Option jm_V → hf_F → Nat → Prop} {v2 : Int}
    (H : hw sc d 42 3 (jm_st1 [(0, (2, 31)), (1, (0, 1)), (2, (1, v2))] 4 (0, 0)) [] φ x Q) :
    hw sc d 42 0 [(0, (2, 31)), (1, (0, 1)), (2, (1, v2))] [] φ x Q := by
  refine hw_k (c := 0) (b := 0) (e := 1) (by decide +kernel) ?_
  refine hw_st (L' := (jm_st1 [(0, (2, 31)), (1, (0, 1)), (2, (1, v2))] 4 (0, 0))) (b := 4) (e := 1) (by decide +kernel) rfl ?_
  exact H
theorem sf_42_31_k1_1 {sc : List Int} {d : Nat} {φ : hf_F} {x : Nat} {Q : Option jm_V → hf_F → Nat → Prop} {v2 : Int} (hI : Inv φ)  (hQ : ∀ (r : Int), (-1 : Int) ≤ r ∧ r ≤ 7 ∧ (r = -1 ∨ (0 ≤ r ∧ r < φ 32 1 ∧ φ 32 1 ≤ 8)) → F_Plan_numberOf_31_k1_1 φ v2 = r → Q (some (0, r)) φ x) : hw sc d 42 0 [(0, (2, 31)), (1, (0, 1)), (2, (1, v2))] [] φ x Q := by
  apply sf_42_31_k1_1_v
  have e0 : F_Plan_numberOf_31_k1_1 φ v2 = _ := rfl
  exact sf_42_31_k1_1_l3 ((8 - 0 : Int).toNat + 1) φ (jm_st1 [(0, (2, 31)), (1, (0, 1)), (2, (1, v2))] 4 (0, 0)) v2 0 (get_st1 rfl (by decide) (fun q => absurd q.1 (by decide))) (get_st1 rfl (by decide) (fun q => absurd q.1 (by decide))) (get_st1 rfl (by decide) (fun q => absurd q.1 (by decide))) get_st1e hI (by omega) (by omega) (by omega) (fun rr hpχ hEχ => hQ rr hpχ (e0.trans hEχ))
theorem sf_47_1_31_k2_1_v {sc : List Int} {d : Nat} {φ : hf_F} {x : Nat} {Q : Option jm_V → hf_F → Nat → Prop} 
    (H : hi (φ 1 5) ∧ hi 2 ∧ ((φ 1 5) = 2 → hw sc d 42 0 [(0, (2, 31)), (1, (0, 1)), (2, (1, φ 1 8))] [] φ x (fun r ψ2 y2 => y2 = x ∧ φ = ψ2 ∧ (∃ z2 : Int, r = some (0, z2) ∧ (hi z2 ∧ hi (-1 : Int) ∧ (¬ z2 = (-1 : Int) → Q (some (0, z2)) φ x) ∧ (¬ (¬ z2 = (-1 : Int)) → hw sc d 37 0 [(0, (2, 1)), (1, (0, 3))] [] φ x (fun r ψ5 y5 => y5 = x ∧ (∃ z5 : Int, r = some (0, z5) ∧ (Q (some (0, z2)) ψ5 x)))))))) ∧ (¬ (φ 1 5) = 2 → hw sc d 37 0 [(0, (2, 1)), (1, (0, 1))] [] φ x (fun r ψ7 y7 => y7 = x ∧ (∃ z7 : Int, r = some (0, z7) ∧ (Q (some (0, (-1 : Int))) ψ7 x))))) :
    hw sc (d + 1) 47 0 [(0, (2, 1)), (1, (2, 31)), (2, (0, 1))] [] φ x Q := by
  refine hw_ald (b := 0) (e := 0) (by decide +kernel) rfl (by decide) ?_
  refine hr_gi (w := φ 1 5) (b := 1) (e := 5) 1 rfl (by decide +kernel) rfl ?_
  refine hw_k (c := 2) (b := 0) (e := 1) (by decide +kernel) ?_
  obtain ⟨hz1, hy1, ht1, hf1⟩ := H
  refine hw_if2 (a0 := 0) (b := 0) (e := 16) (by decide +kernel) hz1 hy1 (fun q => ?_) (fun q => ?_)
  · have H := ht1 q
    refine hw_ald (b := 1) (e := 0) (by decide +kernel) rfl (by decide) ?_
    refine hw_ld (b := 2) (e := 0) (by decide +kernel) rfl ?_
    refine hw_ald (b := 0) (e := 0) (by decide +kernel) rfl (by decide) ?_
    refine hr_gl (w := φ 1 8) (b := 1) (e := 8) 1 rfl (by decide +kernel) rfl ?_
    refine hr_call (a0 := 13) (b := 42) (e := 3) (nl := 5) (As := [(0, 1), (1, φ 1 8)]) (R := []) 31 rfl (by decide +kernel) rfl rfl (Nat.le_of_ble_eq_true rfl) (Nat.le_of_ble_eq_true rfl) ?_
    refine hw_mono H ?_
    rintro r ψ2 y2 ⟨hyx, hψx, z2, hr, H⟩
    subst hyx
    subst hψx
    subst hr
    refine ⟨hne0, ?_⟩
    show hw sc (d + 1) 47 25 [(0, (2, 1)), (1, (2, 31)), (2, (0, 1))] [(0, z2)] φ y2 Q
    refine hw_st (L' := (jm_st1 [(0, (2, 1)), (1, (2, 31)), (2, (0, 1))] 3 (0, z2))) (b := 3) (e := 0) (by decide +kernel) rfl ?_
    refine hw_ld (b := 3) (e := 0) (by decide +kernel) get_st1e ?_
    refine hw_k (c := (-1 : Int)) (b := 0) (e := 1) (by decide +kernel) ?_
    obtain ⟨hz3, hy3, ht3, hf3⟩ := H
    refine hw_if2 (a0 := 0) (b := 1) (e := 37) (by decide +kernel) hz3 hy3 (fun q => ?_) (fun q => ?_)
    · have H := ht3 q
      refine hw_ld (b := 3) (e := 0) (by decide +kernel) get_st1e ?_
      exact hw_ret (a0 := 0) (e := 0) (by decide +kernel) (Or.inl rfl) H
    · have H := hf3 q
      refine hw_ald (b := 0) (e := 0) (by decide +kernel) (get_st1 rfl (by decide) (fun q => absurd q.1 (by decide))) (by decide) ?_
      refine hw_k (c := 3) (b := 0) (e := 1) (by decide +kernel) ?_
      refine hr_call (a0 := 11) (b := 37) (e := 2) (nl := 2) (As := [(0, 3)]) (R := []) 1 rfl (by decide +kernel) rfl rfl (Nat.le_of_ble_eq_true rfl) (Nat.le_of_ble_eq_true rfl) ?_
      refine hw_mono H ?_
      rintro r ψ5 y5 ⟨hyx, z5, hr, H⟩
      subst hyx
      subst hr
      refine ⟨hne0, ?_⟩
      show hw sc (d + 1) 47 36 (jm_st1 [(0, (2, 1)), (1, (2, 31)), (2, (0, 1))] 3 (0, z2)) [(0, z5)] ψ5 y5 Q
      refine hw_pop (a0 := 0) (e := 0) (by decide +kernel) (by decide) ?_
      refine hw_ld (b := 3) (e := 0) (by decide +kernel) get_st1e ?_
      exact hw_ret (a0 := 0) (e := 0) (by decide +kernel) (Or.inl rfl) H
  · have H := hf1 q
    refine hw_ald (b := 0) (e := 0) (by decide +kernel) rfl (by decide) ?_
    refine hw_k (c := 1) (b := 0) (e := 1) (by decide +kernel) ?_
    refine hr_call (a0 := 11) (b := 37) (e := 2) (nl := 2) (As := [(0, 1)]) (R := []) 1 rfl (by decide +kernel) rfl rfl (Nat.le_of_ble_eq_true rfl) (Nat.le_of_ble_eq_true rfl) ?_
    refine hw_mono H ?_
    rintro r ψ7 y7 ⟨hyx, z7, hr, H⟩
    subst hyx
    subst hr
    refine ⟨hne0, ?_⟩
    show hw sc (d + 1) 47 13 [(0, (2, 1)), (1, (2, 31)), (2, (0, 1))] [(0, z7)] ψ7 y7 Q
    refine hw_pop (a0 := 0) (e := 0) (by decide +kernel) (by decide) ?_
    refine hw_k (c := (-1 : Int)) (b := 0) (e := 1) (by decide +kernel) ?_
    exact hw_ret (a0 := 0) (e := 0) (by decide +kernel) (Or.inl rfl) H
theorem sf_47_1_31_k2_1 {sc : List Int} {d : Nat} {φ : hf_F} {x : Nat} {Q : Option jm_V → hf_F → Nat → Prop}  (hI : Inv φ)  (hQ : ∀ (r : Int) (ψ : hf_F), Inv ψ → Fr [2009, 2010] φ ψ → (-1 : Int) ≤ r ∧ r ≤ 7 ∧ (r = -1 ∨ (0 ≤ r ∧ r < φ 32 1 ∧ φ 32 1 ≤ 8)) → F_Reader_peekNamed_1_31_k2_1 φ = (r, ψ) → Q (some (0, r)) ψ x) : hw sc (d + 1) 47 0 [(0, (2, 1)), (1, (2, 31)), (2, (0, 1))] [] φ x Q := by
  apply sf_47_1_31_k2_1_v
  have e0 : F_Reader_peekNamed_1_31_k2_1 φ = _ := rfl
  have f1 := iv_at (a := 1) (k := 5) (lo := 0) (u := 5) hI (by decide +kernel)
  refine ⟨by unfold hi; omega, by unfold hi; omega, fun q1 => ?_, fun q1 => ?_⟩
  · skip
    have e1a := e0.trans (if_pos q1)
    refine sf_42_31_k1_1 (φ := φ) hI  (fun z2 hp2 hE2 => ⟨rfl, rfl, z2, rfl, ?_⟩)
    have e2 := e1a.trans (bnp_e hE2)
    have f2 := iv_at (a := 32) (k := 1) (lo := 0) (u := 8) hI (by decide +kernel)
    refine ⟨by unfold hi; omega, by unfold hi; omega, fun q3 => ?_, fun q3 => ?_⟩
    · skip
      have e3a := e2.trans (if_pos q3)
      exact hQ z2 φ hI (fr_rf) ⟨by omega, by omega, by omega⟩ e3a
    · skip
      have e3b := e2.trans (if_neg q3)
      refine sf_37_1 (φ := φ) hI (by omega) (by omega) (fun z5 ψ5 hI5 hF5 hp5 hE5 => ⟨rfl, z5, rfl, ?_⟩)
      have hG5 : Fr [2009, 2010] φ ψ5 := fr_tr (fr_rf) hF5 (by decide)
      have e5 := e3b.trans (bnd_e hE5)
      exact hQ z2 ψ5 hI5 hG5 ⟨by omega, by omega, by omega⟩ e5
  · skip
    have e1b := e0.trans (if_neg q1)
    refine sf_37_1 (φ := φ) hI (by omega) (by omega) (fun z7 ψ7 hI7 hF7 hp7 hE7 => ⟨rfl, z7, rfl, ?_⟩)
    have hG7 : Fr [2009, 2010] φ ψ7 := fr_tr (fr_rf) hF7 (by decide)
    have e7 := e1b.trans (bnd_e hE7)
    have f3 := iv_at (a := 32) (k := 1) (lo := 0) (u := 8) hI (by decide +kernel)
    exact hQ (-1 : Int) ψ7 hI7 hG7 ⟨by omega, by omega, by omega⟩ e7
theorem sf_45_31_k1_3_v {sc : List Int} {d : Nat} {φ : hf_F} {x : Nat} {Q : Option jm_V → hf_F → Nat → Prop} {v2 : Int}
    (H : 0 ≤ (24 + (φ 32 3)) ∧ (24 + (φ 32 3)) < 40 ∧ (Q (some (0, φ 32 3)) (hf_up (hf_up φ 33 ((24 + (φ 32 3)).toNat) v2) 32 3 ((φ 32 3) + 1)) x)) :
    hw sc d 45 0 [(0, (2, 31)), (1, (0, 3)), (2, (1, v2))] [] φ x Q := by
  refine hw_ald (b := 0) (e := 0) (by decide +kernel) rfl (by decide) ?_
  refine hr_gr (w := 32) (b := 3) (e := 0) 31 rfl (by decide +kernel) ?_
  refine hw_ld (b := 1) (e := 0) (by decide +kernel) rfl ?_
  refine hr_al (b := 0) (a0 := 0) (e := 0) (n := 5) (w := φ 32 3) 32 rfl (by decide +kernel) (by decide) (by decide) (by decide) rfl ?_
  refine hw_st (L' := (jm_st1 [(0, (2, 31)), (1, (0, 3)), (2, (1, v2))] 4 (0, φ 32 3))) (b := 4) (e := 1) (by decide +kernel) rfl ?_
  refine hw_ald (b := 0) (e := 0) (by decide +kernel) (get_st1 rfl (by decide) (fun q => absurd q.1 (by decide))) (by decide) ?_
  refine hr_gr (w := 33) (b := 3) (e := 1) 31 rfl (by decide +kernel) ?_
  refine hw_ld (b := 1) (e := 0) (by decide +kernel) (get_st1 rfl (by decide) (fun q => absurd q.1 (by decide))) ?_
  refine hw_k (c := 8) (b := 1) (e := 2) (by decide +kernel) ?_
  refine hw_bin (w := 24) (a0 := 0) (b := 2) (e := 0) (by decide +kernel) rfl ?_
  refine hw_ld (b := 4) (e := 1) (by decide +kernel) get_st1e ?_
  refine hw_bin (w := 24 + (φ 32 3)) (a0 := 0) (b := 0) (e := 0) (by decide +kernel) rfl ?_
  refine hw_lld (b := 2) (e := 0) (by decide +kernel) (get_st1 rfl (by decide) (fun q => absurd q.1 (by decide))) ?_
  obtain ⟨hl1, hu1, H⟩ := H
  refine hr_asl (a0 := 0) (e := 4) (n := 40) 33 rfl (by decide +kernel) hl1 hu1 ?_
  refine hw_ald (b := 0) (e := 0) (by decide +kernel) (get_st1 rfl (by decide) (fun q => absurd q.1 (by decide))) (by decide) ?_
  refine hr_gr (w := 32) (b := 3) (e := 0) 31 rfl (by decide +kernel) ?_
  refine hw_ld (b := 1) (e := 0) (by decide +kernel) (get_st1 rfl (by decide) (fun q => absurd q.1 (by decide))) ?_
  refine hw_dup2 (a0 := 0) (e := 0) (by decide +kernel) (by decide) (by decide) ?_
  refine hr_al (b := 0) (a0 := 0) (e := 0) (n := 5) (w := φ 32 3) 32 rfl (by decide +kernel) (by decide) (by decide) (by decide) (hf_up_ne (fun q => absurd q.1 (by decide))) ?_
  refine hw_k (c := 1) (b := 0) (e := 1) (by decide +kernel) ?_
  refine hw_bin (w := (φ 32 3) + 1) (a0 := 0) (b := 0) (e := 0) (by decide +kernel) rfl ?_
  refine hr_as (a0 := 0) (e := 4) (n := 5) 32 rfl (by decide +kernel) (by decide) (by decide) ?_
  refine hw_ld (b := 4) (e := 1) (by decide +kernel) get_st1e ?_
  exact hw_ret (a0 := 0) (e := 0) (by decide +kernel) (Or.inl rfl) H
theorem sf_45_31_k1_3 {sc : List Int} {d : Nat} {φ : hf_F} {x : Nat} {Q : Option jm_V → hf_F → Nat → Prop} {v2 : Int} (hI : Inv φ) (hx0 : 0 ≤ φ 32 3 ∧ φ 32 3 ≤ 5) (hQ : ∀ (r : Int) (ψ : hf_F), Inv ψ → Fr [32, 33] φ ψ → 0 ≤ r ∧ r ≤ 7 ∧ r ≤ 5 → F_Plan_addNamed_31_k1_3 φ v2 = (r, ψ) → Q (some (0, r)) ψ x) : hw sc d 45 0 [(0, (2, 31)), (1, (0, 3)), (2, (1, v2))] [] φ x Q := by
  apply sf_45_31_k1_3_v
  have e0 : F_Plan_addNamed_31_k1_3 φ v2 = _ := rfl
  have f1 := iv_at (a := 32) (k := 3) (lo := 0) (u := 6) hI (by decide +kernel)
  refine ⟨by omega, by omega, ?_⟩
  have i2 : Inv (hf_up φ 33 ((24 + (φ 32 3)).toNat) v2) := iv_upIn hI (by decide) (by decide +kernel)
  have r2 : Fr [32, 33] φ (hf_up φ 33 ((24 + (φ 32 3)).toNat) v2) := fr_upa (fr_rf) (by decide)
  have i3 : Inv (hf_up (hf_up φ 33 ((24 + (φ 32 3)).toNat) v2) 32 3 ((φ 32 3) + 1)) := iv_up (lo := 0) (u := 6) i2 (by decide +kernel) (by omega) (by omega)
  have r3 : Fr [32, 33] φ (hf_up (hf_up φ 33 ((24 + (φ 32 3)).toNat) v2) 32 3 ((φ 32 3) + 1)) := fr_upa r2 (by decide)
  exact hQ (φ 32 3) (hf_up (hf_up φ 33 ((24 + (φ 32 3)).toNat) v2) 32 3 ((φ 32 3) + 1)) i3 r3 ⟨by omega, by omega, by omega⟩ e0
theorem sf_52_43_v {sc : List Int} {d : Nat} {φ : hf_F} {x : Nat} {Q : Option jm_V → hf_F → Nat → Prop} {v1 v2 : Int}
    (H : 0 ≤ v1 ∧ v1 < 6 ∧ (0 ≤ v2 ∧ v2 < 8 ∧ (Q none (hf_up (hf_up φ 46 ((v1).toNat) v2) 45 ((v2).toNat) v1) x))) :
    hw sc d 52 0 [(0, (2, 43)), (1, (0, v1)), (2, (0, v2))] [] φ x Q := by
  refine hw_ald (b := 0) (e := 0) (by decide +kernel) rfl (by decide) ?_
  refine hr_gr (w := 46) (b := 4) (e := 8) 43 rfl (by decide +kernel) ?_
  refine hw_ld (b := 1) (e := 0) (by decide +kernel) rfl ?_
  refine hw_ld (b := 2) (e := 0) (by decide +kernel) rfl ?_
  obtain ⟨hl1, hu1, H⟩ := H
  refine hr_as (a0 := 0) (e := 4) (n := 6) 46 rfl (by decide +kernel) hl1 hu1 ?_
  refine hw_ald (b := 0) (e := 0) (by decide +kernel) rfl (by decide) ?_
  refine hr_gr (w := 45) (b := 4) (e := 7) 43 rfl (by decide +kernel) ?_
  refine hw_ld (b := 2) (e := 0) (by decide +kernel) rfl ?_
  refine hw_ld (b := 1) (e := 0) (by decide +kernel) rfl ?_
  obtain ⟨hl2, hu2, H⟩ := H
  refine hr_as (a0 := 0) (e := 4) (n := 8) 45 rfl (by decide +kernel) hl2 hu2 ?_
  exact hw_vret (a0 := 0) (e := 0) (by decide +kernel) H
theorem sf_52_43 {sc : List Int} {d : Nat} {φ : hf_F} {x : Nat} {Q : Option jm_V → hf_F → Nat → Prop} {v1 v2 : Int} (hI : Inv φ) (h1a : 0 ≤ v1) (h1b : v1 ≤ 5) (h2a : 0 ≤ v2) (h2b : v2 ≤ 7) (hQ : ∀ ψ : hf_F, Inv ψ → Fr [45, 46] φ ψ → F_State_sitDown_43 φ v1 v2 = ψ → Q none ψ x) : hw sc d 52 0 [(0, (2, 43)), (1, (0, v1)), (2, (0, v2))] [] φ x Q := by
  apply sf_52_43_v
  have e0 : F_State_sitDown_43 φ v1 v2 = _ := rfl
  refine ⟨by omega, by omega, ?_⟩
  have i1 : Inv (hf_up φ 46 ((v1).toNat) v2) := iv_upI (s := 0) (t := 6) (lo := (-1 : Int)) (u := 7) (z := v1) hI (by decide +kernel) (by omega) (by omega) (by omega) (by omega)
  have r1 : Fr [45, 46] φ (hf_up φ 46 ((v1).toNat) v2) := fr_upa (fr_rf) (by decide)
  refine ⟨by omega, by omega, ?_⟩
  have i2 : Inv (hf_up (hf_up φ 46 ((v1).toNat) v2) 45 ((v2).toNat) v1) := iv_upI (s := 0) (t := 8) (lo := (-1 : Int)) (u := 5) (z := v2) i1 (by decide +kernel) (by omega) (by omega) (by omega) (by omega)
  have r2 : Fr [45, 46] φ (hf_up (hf_up φ 46 ((v1).toNat) v2) 45 ((v2).toNat) v1) := fr_upa r1 (by decide)
  exact hQ (hf_up (hf_up φ 46 ((v1).toNat) v2) 45 ((v2).toNat) v1) i2 r2 e0
theorem sf_51_182_v {sc : List Int} {d : Nat} {φ : hf_F} {x : Nat} {Q : Option jm_V → hf_F → Nat → Prop} 
    (H : hw sc (d + 3) 39 0 [(0, (2, 182)), (1, (0, 3))] [] φ x (fun r ψ1 y1 => y1 = x ∧ (∃ z1 : Int, r = some (1, z1) ∧ (hi (jm_cmp z1 0) ∧ (¬ (jm_cmp z1 0) = 0 → hi (ψ1 1 5) ∧ hi 2 ∧ ((ψ1 1 5) = 2 → hw sc (d + 3) 47 0 [(0, (2, 1)), (1, (2, 31)), (2, (0, 1))] [] ψ1 x (fun r ψ4 y4 => y4 = x ∧ (∃ z4 : Int, r = some (0, z4) ∧ (hi z4 ∧ hi (-1 : Int) ∧ (¬ z4 = (-1 : Int) → 0 ≤ z4 ∧ z4 < 8 ∧ (hi (ψ4 45 ((z4).toNat)) ∧ hi (-1 : Int) ∧ ((ψ4 45 ((z4).toNat)) = (-1 : Int) → hw sc (d + 3) 29 0 [(0, (2, 1))] [] ψ4 x (fun r ψ8 y8 => y8 = x ∧ (r = none ∧ (hw sc (d + 3) 45 0 [(0, (2, 31)), (1, (0, 3)), (2, (1, z1))] [] ψ8 x (fun r ψ9 y9 => y9 = x ∧ (∃ z9 : Int, r = some (0, z9) ∧ (hw sc (d + 3) 52 0 [(0, (2, 43)), (1, (0, z9)), (2, (0, z4))] [] ψ9 x (fun r ψ10 y10 => y10 = x ∧ (r = none ∧ (Q (some (0, 1)) ψ10 x)))))))))) ∧ (¬ (ψ4 45 ((z4).toNat)) = (-1 : Int) → hw sc (d + 3) 37 0 [(0, (2, 1)), (1, (0, 3))] [] ψ4 x (fun r ψ12 y12 => y12 = x ∧ (∃ z12 : Int, r = some (0, z12) ∧ ((z12 = 0 ∨ z12 = 1) ∧ Q (some (0, z12)) ψ12 x)))))) ∧ (¬ (¬ z4 = (-1 : Int)) → Q (some (0, 0)) ψ4 x))))) ∧ (¬ (ψ1 1 5) = 2 → hw sc (d + 3) 45 0 [(0, (2, 31)), (1, (0, 3)), (2, (1, z1))] [] ψ1 x (fun r ψ15 y15 => y15 = x ∧ (∃ z15 : Int, r = some (0, z15) ∧ (Q (some (0, 1)) ψ15 x))))) ∧ (¬ (¬ (jm_cmp z1 0) = 0) → Q (some (0, 0)) ψ1 x))))) :
    hw sc (d + 4) 51 0 [(0, (2, 182))] [] φ x Q := by
  refine hw_ald (b := 0) (e := 0) (by decide +kernel) rfl (by decide) ?_
  refine hw_k (c := 3) (b := 0) (e := 1) (by decide +kernel) ?_
  refine hr_call (a0 := 17) (b := 39) (e := 2) (nl := 4) (As := [(0, 3)]) (R := []) 182 rfl (by decide +kernel) rfl rfl (Nat.le_of_ble_eq_true rfl) (Nat.le_of_ble_eq_true rfl) ?_
  refine hw_mono H ?_
  rintro r ψ1 y1 ⟨hyx, z1, hr, H⟩
  subst hyx
  subst hr
  refine ⟨hne1, ?_⟩
  show hw sc (d + 4) 51 5 [(0, (2, 182))] [(1, z1)] ψ1 y1 Q
  refine hw_lst (L' := (jm_st2 [(0, (2, 182))] 1 (1, z1))) (b := 1) (e := 0) (by decide +kernel) rfl ?_
  refine hw_lld (b := 1) (e := 0) (by decide +kernel) get_st2e ?_
  refine hw_lk (c := 0) (b := 0) (e := 1) (by decide +kernel) ?_
  refine hw_lcmp (w := jm_cmp z1 0) (a0 := 0) (b := 0) (e := 0) (by decide +kernel) rfl ?_
  obtain ⟨hz2, ht2, hf2⟩ := H
  refine hw_if (a0 := 0) (b := 1) (e := 14) (by decide +kernel) hz2 (fun q => ?_) (fun q => ?_)
  · have H := ht2 q
    refine hw_ald (b := 0) (e := 0) (by decide +kernel) (get_st2 rfl (by decide) (by decide) (fun q => tg2 q.2)) (by decide) ?_
    refine hr_gr (w := 1) (b := 7) (e := 0) 182 rfl (by decide +kernel) ?_
    refine hr_gi (w := ψ1 1 5) (b := 1) (e := 5) 1 rfl (by decide +kernel) rfl ?_
    refine hw_k (c := 2) (b := 0) (e := 1) (by decide +kernel) ?_
    obtain ⟨hz3, hy3, ht3, hf3⟩ := H
    refine hw_if2 (a0 := 0) (b := 0) (e := 37) (by decide +kernel) hz3 hy3 (fun q => ?_) (fun q => ?_)
    · have H := ht3 q
      refine hw_ald (b := 0) (e := 0) (by decide +kernel) (get_st2 rfl (by decide) (by decide) (fun q => tg2 q.2)) (by decide) ?_
      refine hr_gr (w := 1) (b := 7) (e := 0) 182 rfl (by decide +kernel) ?_
      refine hw_ald (b := 0) (e := 0) (by decide +kernel) (get_st2 rfl (by decide) (by decide) (fun q => tg2 q.2)) (by decide) ?_
      refine hr_gr (w := 31) (b := 7) (e := 1) 182 rfl (by decide +kernel) ?_
      refine hw_k (c := 1) (b := 0) (e := 1) (by decide +kernel) ?_
      refine hr_call (a0 := 11) (b := 47) (e := 3) (nl := 4) (As := [(2, 31), (0, 1)]) (R := []) 1 rfl (by decide +kernel) rfl rfl (Nat.le_of_ble_eq_true rfl) (Nat.le_of_ble_eq_true rfl) ?_
      refine hw_mono H ?_
      rintro r ψ4 y4 ⟨hyx, z4, hr, H⟩
      subst hyx
      subst hr
      refine ⟨hne0, ?_⟩
      show hw sc (d + 4) 51 49 (jm_st2 [(0, (2, 182))] 1 (1, z1)) [(0, z4)] ψ4 y4 Q
      refine hw_st (L' := (jm_st1 (jm_st2 [(0, (2, 182))] 1 (1, z1)) 3 (0, z4))) (b := 3) (e := 0) (by decide +kernel) rfl ?_
      refine hw_ld (b := 3) (e := 0) (by decide +kernel) get_st1e ?_
      refine hw_k (c := (-1 : Int)) (b := 0) (e := 1) (by decide +kernel) ?_
      obtain ⟨hz5, hy5, ht5, hf5⟩ := H
      refine hw_if2 (a0 := 0) (b := 1) (e := 57) (by decide +kernel) hz5 hy5 (fun q => ?_) (fun q => ?_)
      · have H := ht5 q
        refine hw_ald (b := 0) (e := 0) (by decide +kernel) (get_st1 (get_st2 rfl (by decide) (by decide) (fun q => tg2 q.2)) (by decide) (fun q => absurd q.1 (by decide))) (by decide) ?_
        refine hr_gr (w := 43) (b := 7) (e := 2) 182 rfl (by decide +kernel) ?_
        refine hr_gr (w := 45) (b := 4) (e := 7) 43 rfl (by decide +kernel) ?_
        refine hw_ld (b := 3) (e := 0) (by decide +kernel) get_st1e ?_
        obtain ⟨hl6, hu6, H⟩ := H
        refine hr_al (b := 0) (a0 := 0) (e := 0) (n := 8) (w := ψ4 45 ((z4).toNat)) 45 rfl (by decide +kernel) (by decide) hl6 hu6 rfl ?_
        refine hw_k (c := (-1 : Int)) (b := 0) (e := 1) (by decide +kernel) ?_
        obtain ⟨hz7, hy7, ht7, hf7⟩ := H
        refine hw_if2 (a0 := 0) (b := 0) (e := 79) (by decide +kernel) hz7 hy7 (fun q => ?_) (fun q => ?_)
        · have H := ht7 q
          refine hw_ald (b := 0) (e := 0) (by decide +kernel) (get_st1 (get_st2 rfl (by decide) (by decide) (fun q => tg2 q.2)) (by decide) (fun q => absurd q.1 (by decide))) (by decide) ?_
          refine hr_gr (w := 1) (b := 7) (e := 0) 182 rfl (by decide +kernel) ?_
          refine hr_call (a0 := 11) (b := 29) (e := 1) (nl := 1) (As := []) (R := []) 1 rfl (by decide +kernel) rfl rfl (Nat.le_of_ble_eq_true rfl) (Nat.le_of_ble_eq_true rfl) ?_
          refine hw_mono H ?_
          rintro r ψ8 y8 ⟨hyx, hr, H⟩
          subst hyx
          subst hr
          refine ⟨hnen, ?_⟩
          show hw sc (d + 4) 51 86 (jm_st1 (jm_st2 [(0, (2, 182))] 1 (1, z1)) 3 (0, z4)) [] ψ8 y8 Q
          refine hw_ald (b := 0) (e := 0) (by decide +kernel) (get_st1 (get_st2 rfl (by decide) (by decide) (fun q => tg2 q.2)) (by decide) (fun q => absurd q.1 (by decide))) (by decide) ?_
          refine hr_gr (w := 43) (b := 7) (e := 2) 182 rfl (by decide +kernel) ?_
          refine hw_ald (b := 0) (e := 0) (by decide +kernel) (get_st1 (get_st2 rfl (by decide) (by decide) (fun q => tg2 q.2)) (by decide) (fun q => absurd q.1 (by decide))) (by decide) ?_
          refine hr_gr (w := 31) (b := 7) (e := 1) 182 rfl (by decide +kernel) ?_
          refine hw_k (c := 3) (b := 0) (e := 1) (by decide +kernel) ?_
          refine hw_lld (b := 1) (e := 0) (by decide +kernel) (get_st1 get_st2e (by decide) (fun q => absurd q.1 (by decide))) ?_
          refine hr_call (a0 := 13) (b := 45) (e := 3) (nl := 5) (As := [(0, 3), (1, z1)]) (R := [(2, 43)]) 31 rfl (by decide +kernel) rfl rfl (Nat.le_of_ble_eq_true rfl) (Nat.le_of_ble_eq_true rfl) ?_
          refine hw_mono H ?_
          rintro r ψ9 y9 ⟨hyx, z9, hr, H⟩
          subst hyx
          subst hr
          refine ⟨hne0, ?_⟩
          show hw sc (d + 4) 51 99 (jm_st1 (jm_st2 [(0, (2, 182))] 1 (1, z1)) 3 (0, z4)) [(0, z9), (2, 43)] ψ9 y9 Q
          refine hw_ld (b := 3) (e := 0) (by decide +kernel) get_st1e ?_
          refine hr_call (a0 := 14) (b := 52) (e := 3) (nl := 3) (As := [(0, z9), (0, z4)]) (R := []) 43 rfl (by decide +kernel) rfl rfl (Nat.le_of_ble_eq_true rfl) (Nat.le_of_ble_eq_true rfl) ?_
          refine hw_mono H ?_
          rintro r ψ10 y10 ⟨hyx, hr, H⟩
          subst hyx
          subst hr
          refine ⟨hnen, ?_⟩
          show hw sc (d + 4) 51 103 (jm_st1 (jm_st2 [(0, (2, 182))] 1 (1, z1)) 3 (0, z4)) [] ψ10 y10 Q
          refine hw_k (c := 1) (b := 0) (e := 1) (by decide +kernel) ?_
          exact hw_ret (a0 := 0) (e := 1) (by decide +kernel) (Or.inr ⟨rfl, by decide⟩) H
        · have H := hf7 q
          refine hw_ald (b := 0) (e := 0) (by decide +kernel) (get_st1 (get_st2 rfl (by decide) (by decide) (fun q => tg2 q.2)) (by decide) (fun q => absurd q.1 (by decide))) (by decide) ?_
          refine hr_gr (w := 1) (b := 7) (e := 0) 182 rfl (by decide +kernel) ?_
          refine hw_k (c := 3) (b := 0) (e := 1) (by decide +kernel) ?_
          refine hr_call (a0 := 11) (b := 37) (e := 2) (nl := 2) (As := [(0, 3)]) (R := []) 1 rfl (by decide +kernel) rfl rfl (Nat.le_of_ble_eq_true rfl) (Nat.le_of_ble_eq_true rfl) ?_
          refine hw_mono H ?_
          rintro r ψ12 y12 ⟨hyx, z12, hr, H⟩
          subst hyx
          subst hr
          refine ⟨hne0, ?_⟩
          show hw sc (d + 4) 51 78 (jm_st1 (jm_st2 [(0, (2, 182))] 1 (1, z1)) 3 (0, z4)) [(0, z12)] ψ12 y12 Q
          exact hw_ret (a0 := 0) (e := 1) (by decide +kernel) (Or.inr ⟨rfl, H.1⟩) H.2
      · have H := hf5 q
        refine hw_k (c := 0) (b := 0) (e := 1) (by decide +kernel) ?_
        exact hw_ret (a0 := 0) (e := 1) (by decide +kernel) (Or.inr ⟨rfl, by decide⟩) H
    · have H := hf3 q
      refine hw_ald (b := 0) (e := 0) (by decide +kernel) (get_st2 rfl (by decide) (by decide) (fun q => tg2 q.2)) (by decide) ?_
      refine hr_gr (w := 31) (b := 7) (e := 1) 182 rfl (by decide +kernel) ?_
      refine hw_k (c := 3) (b := 0) (e := 1) (by decide +kernel) ?_
      refine hw_lld (b := 1) (e := 0) (by decide +kernel) get_st2e ?_
      refine hr_call (a0 := 13) (b := 45) (e := 3) (nl := 5) (As := [(0, 3), (1, z1)]) (R := []) 31 rfl (by decide +kernel) rfl rfl (Nat.le_of_ble_eq_true rfl) (Nat.le_of_ble_eq_true rfl) ?_
      refine hw_mono H ?_
      rintro r ψ15 y15 ⟨hyx, z15, hr, H⟩
      subst hyx
      subst hr
      refine ⟨hne0, ?_⟩
      show hw sc (d + 4) 51 34 (jm_st2 [(0, (2, 182))] 1 (1, z1)) [(0, z15)] ψ15 y15 Q
      refine hw_pop (a0 := 0) (e := 0) (by decide +kernel) (by decide) ?_
      refine hw_k (c := 1) (b := 0) (e := 1) (by decide +kernel) ?_
      exact hw_ret (a0 := 0) (e := 1) (by decide +kernel) (Or.inr ⟨rfl, by decide⟩) H
  · have H := hf2 q
    refine hw_k (c := 0) (b := 0) (e := 1) (by decide +kernel) ?_
    exact hw_ret (a0 := 0) (e := 1) (by decide +kernel) (Or.inr ⟨rfl, by decide⟩) H
theorem sf_51_182 {sc : List Int} {d : Nat} {φ : hf_F} {x : Nat} {Q : Option jm_V → hf_F → Nat → Prop}  (hI : Inv φ)  (hQ : ∀ (r : Int) (ψ : hf_F), Inv ψ → Fr [32, 33, 45, 46, 2004, 2005, 2006, 2007, 2008, 2009, 2010] φ ψ → 0 ≤ r ∧ r ≤ 1 → F_RideText_readRider_182 φ = (r, ψ) → Q (some (0, r)) ψ x) : hw sc (d + 4) 51 0 [(0, (2, 182))] [] φ x Q := by
  apply sf_51_182_v
  have e0 : F_RideText_readRider_182 φ = _ := rfl
  refine sf_39_182_k1_3 (φ := φ) hI  (fun z1 ψ1 hI1 hF1 hp1 hE1 => ⟨rfl, z1, rfl, ?_⟩)
  have hG1 : Fr [32, 33, 45, 46, 2004, 2005, 2006, 2007, 2008, 2009, 2010] φ ψ1 := fr_tr (fr_rf) hF1 (by decide)
  have f1 := iv_at (a := 32) (k := 3) (lo := 0) (u := 6) hI (by decide +kernel)
  have e1 := e0.trans (bnd_e hE1)
  have f2 := hr_cmp z1 0
  have f3 := hr_cmp0 z1
  refine ⟨by unfold hi; omega, fun q2 => ?_, fun q2 => ?_⟩
  · skip
    have e2a := e1.trans (if_pos q2)
    have f4 := iv_at (a := 1) (k := 5) (lo := 0) (u := 5) hI1 (by decide +kernel)
    refine ⟨by unfold hi; omega, by unfold hi; omega, fun q3 => ?_, fun q3 => ?_⟩
    · skip
      have e3a := e2a.trans (if_pos q3)
      refine sf_47_1_31_k2_1 (φ := ψ1) hI1  (fun z4 ψ4 hI4 hF4 hp4 hE4 => ⟨rfl, z4, rfl, ?_⟩)
      have hG4 : Fr [32, 33, 45, 46, 2004, 2005, 2006, 2007, 2008, 2009, 2010] φ ψ4 := fr_tr hG1 hF4 (by decide)
      have f5 := iv_at (a := 32) (k := 1) (lo := 0) (u := 8) hI1 (by decide +kernel)
      have f6 : ψ1 32 1 = φ 32 1 := (fr_at hF1 32 (by decide) 1)
      have f7 := iv_at (a := 32) (k := 1) (lo := 0) (u := 8) hI (by decide +kernel)
      have e4 := e3a.trans (bnd_e hE4)
      refine ⟨by unfold hi; omega, by unfold hi; omega, fun q5 => ?_, fun q5 => ?_⟩
      · skip
        have e5a := e4.trans (if_pos q5)
        refine ⟨by omega, by omega, ?_⟩
        have f8 := iv_ar (a := 45) (s := 0) (t := 8) (lo := (-1 : Int)) (u := 5) (z := z4) hI4 (by decide +kernel) (by omega) (by omega)
        have f9 : ψ4 45 ((z4).toNat) = ψ1 45 ((z4).toNat) := (fr_at hF4 45 (by decide) ((z4).toNat))
        have f10 := iv_ar (a := 45) (s := 0) (t := 8) (lo := (-1 : Int)) (u := 5) (z := z4) hI1 (by decide +kernel) (by omega) (by omega)
        have f11 : ψ1 45 ((z4).toNat) = φ 45 ((z4).toNat) := (fr_at hF1 45 (by decide) ((z4).toNat))
        have f12 := iv_ar (a := 45) (s := 0) (t := 8) (lo := (-1 : Int)) (u := 5) (z := z4) hI (by decide +kernel) (by omega) (by omega)
        refine ⟨by unfold hi; omega, by unfold hi; omega, fun q7 => ?_, fun q7 => ?_⟩
        · skip
          have e7a := e5a.trans (if_pos q7)
          refine sf_29_1 (φ := ψ4) hI4  (fun ψ8 hI8 hF8 hE8 => ⟨rfl, rfl, ?_⟩)
          have hG8 : Fr [32, 33, 45, 46, 2004, 2005, 2006, 2007, 2008, 2009, 2010] φ ψ8 := fr_tr hG4 hF8 (by decide)
          have e8 := e7a.trans (bnv_e hE8)
          have f13 := iv_at (a := 32) (k := 3) (lo := 0) (u := 6) hI8 (by decide +kernel)
          have f14 : ψ8 32 3 = ψ4 32 3 := (fr_at hF8 32 (by decide) 3)
          have f15 := iv_at (a := 32) (k := 3) (lo := 0) (u := 6) hI4 (by decide +kernel)
          have f16 : ψ4 32 3 = ψ1 32 3 := (fr_at hF4 32 (by decide) 3)
          have f17 := iv_at (a := 32) (k := 3) (lo := 0) (u := 6) hI1 (by decide +kernel)
          have f18 : ψ1 32 3 = φ 32 3 := (fr_at hF1 32 (by decide) 3)
          refine sf_45_31_k1_3 (φ := ψ8) hI8 (by rw [show ψ8 32 3 = ψ8 32 3 from rfl]; constructor <;> omega) (fun z9 ψ9 hI9 hF9 hp9 hE9 => ⟨rfl, z9, rfl, ?_⟩)
          have hG9 : Fr [32, 33, 45, 46, 2004, 2005, 2006, 2007, 2008, 2009, 2010] φ ψ9 := fr_tr hG8 hF9 (by decide)
          have e9 := e8.trans (bnd_e hE9)
          refine sf_52_43 (φ := ψ9) hI9 (by omega) (by omega) (by omega) (by omega) (fun ψ10 hI10 hF10 hE10 => ⟨rfl, rfl, ?_⟩)
          have hG10 : Fr [32, 33, 45, 46, 2004, 2005, 2006, 2007, 2008, 2009, 2010] φ ψ10 := fr_tr hG9 hF10 (by decide)
          have e10 := e9.trans (bnv_e hE10)
          exact hQ 1 ψ10 hI10 hG10 ⟨by omega, by omega⟩ e10
        · skip
          have e7b := e5a.trans (if_neg q7)
          refine sf_37_1 (φ := ψ4) hI4 (by omega) (by omega) (fun z12 ψ12 hI12 hF12 hp12 hE12 => ⟨rfl, z12, rfl, ?_⟩)
          have hG12 : Fr [32, 33, 45, 46, 2004, 2005, 2006, 2007, 2008, 2009, 2010] φ ψ12 := fr_tr hG4 hF12 (by decide)
          have e12 := e7b.trans (bnd_e hE12)
          refine ⟨by omega, ?_⟩
          exact hQ z12 ψ12 hI12 hG12 ⟨by omega, by omega⟩ e12
      · skip
        have e5b := e4.trans (if_neg q5)
        exact hQ 0 ψ4 hI4 hG4 ⟨by omega, by omega⟩ e5b
    · skip
      have e3b := e2a.trans (if_neg q3)
      have f19 := iv_at (a := 32) (k := 3) (lo := 0) (u := 6) hI1 (by decide +kernel)
      have f20 : ψ1 32 3 = φ 32 3 := (fr_at hF1 32 (by decide) 3)
      refine sf_45_31_k1_3 (φ := ψ1) hI1 (by rw [show ψ1 32 3 = ψ1 32 3 from rfl]; constructor <;> omega) (fun z15 ψ15 hI15 hF15 hp15 hE15 => ⟨rfl, z15, rfl, ?_⟩)
      have hG15 : Fr [32, 33, 45, 46, 2004, 2005, 2006, 2007, 2008, 2009, 2010] φ ψ15 := fr_tr hG1 hF15 (by decide)
      have e15 := e3b.trans (bnd_e hE15)
      exact hQ 1 ψ15 hI15 hG15 ⟨by omega, by omega⟩ e15
  · skip
    have e2b := e1.trans (if_neg q2)
    exact hQ 0 ψ1 hI1 hG1 ⟨by omega, by omega⟩ e2b
theorem sf_42_31_k1_3_v3 {sc : List Int} {d : Nat} {φ : hf_F} {x : Nat} {Q : Option jm_V → hf_F → Nat → Prop} {L : jm_L} {l2 l4 : Int} (g0 : jm_get L 0 = some (2, 31)) (g1 : jm_get L 1 = some (0, 3)) (g2 : jm_get L 2 = some (1, l2)) (g4 : jm_get L 4 = some (0, l4))
    (H : hi l4 ∧ hi (φ 32 3) ∧ ((φ 32 3) ≤ l4 → Q (some (0, (-1 : Int))) φ x) ∧ (¬ (φ 32 3) ≤ l4 → 0 ≤ (24 + l4) ∧ (24 + l4) < 40 ∧ (hi (jm_cmp (φ 33 ((24 + l4).toNat)) l2) ∧ (¬ (jm_cmp (φ 33 ((24 + l4).toNat)) l2) = 0 → hw sc d 42 3 (jm_st1 L 4 (0, l4 + 1)) [] φ x Q) ∧ (¬ (¬ (jm_cmp (φ 33 ((24 + l4).toNat)) l2) = 0) → Q (some (0, l4)) φ x)))) :
    hw sc d 42 3 L [] φ x Q := by
  refine hw_ld (b := 4) (e := 1) (by decide +kernel) g4 ?_
  refine hw_ald (b := 0) (e := 0) (by decide +kernel) g0 (by decide) ?_
  refine hr_gr (w := 32) (b := 3) (e := 0) 31 rfl (by decide +kernel) ?_
  refine hw_ld (b := 1) (e := 0) (by decide +kernel) g1 ?_
  refine hr_al (b := 0) (a0 := 0) (e := 0) (n := 5) (w := φ 32 3) 32 rfl (by decide +kernel) (by decide) (by decide) (by decide) rfl ?_
  obtain ⟨hz1, hy1, ht1, hf1⟩ := H
  refine hw_if2 (a0 := 0) (b := 3) (e := 40) (by decide +kernel) hz1 hy1 (fun q => ?_) (fun q => ?_)
  · have H := ht1 q
    refine hw_k (c := (-1 : Int)) (b := 0) (e := 1) (by decide +kernel) ?_
    exact hw_ret (a0 := 0) (e := 0) (by decide +kernel) (Or.inl rfl) H
  · have H := hf1 q
    refine hw_ald (b := 0) (e := 0) (by decide +kernel) g0 (by decide) ?_
    refine hr_gr (w := 33) (b := 3) (e := 1) 31 rfl (by decide +kernel) ?_
    refine hw_ld (b := 1) (e := 0) (by decide +kernel) g1 ?_
    refine hw_k (c := 8) (b := 1) (e := 2) (by decide +kernel) ?_
    refine hw_bin (w := 24) (a0 := 0) (b := 2) (e := 0) (by decide +kernel) rfl ?_
    refine hw_ld (b := 4) (e := 1) (by decide +kernel) g4 ?_
    refine hw_bin (w := 24 + l4) (a0 := 0) (b := 0) (e := 0) (by decide +kernel) rfl ?_
    obtain ⟨hl3, hu3, H⟩ := H
    refine hr_all (a0 := 0) (e := 0) (n := 40) (w := φ 33 ((24 + l4).toNat)) 33 rfl (by decide +kernel) hl3 hu3 rfl ?_
    refine hw_lld (b := 2) (e := 0) (by decide +kernel) g2 ?_
    refine hw_lcmp (w := jm_cmp (φ 33 ((24 + l4).toNat)) l2) (a0 := 0) (b := 0) (e := 0) (by decide +kernel) rfl ?_
    obtain ⟨hz4, ht4, hf4⟩ := H
    refine hw_if (a0 := 0) (b := 1) (e := 34) (by decide +kernel) hz4 (fun q => ?_) (fun q => ?_)
    · have H := ht4 q
      refine hw_inc (L' := (jm_st1 L 4 (0, l4 + 1))) (c := 1) (b := 4) (e := 0) (by decide +kernel) g4 rfl ?_
      refine hw_goto (a0 := 0) (b := 0) (e := 3) (by decide +kernel) ?_
      exact H
    · have H := hf4 q
      refine hw_ld (b := 4) (e := 1) (by decide +kernel) g4 ?_
      exact hw_ret (a0 := 0) (e := 0) (by decide +kernel) (Or.inl rfl) H
theorem sf_42_31_k1_3_l3 {sc : List Int} {d x : Nat} {Q : Option jm_V → hf_F → Nat → Prop} : ∀ (n : Nat) (φ : hf_F) (L : jm_L) (l2 l4 : Int), jm_get L 0 = some (2, 31) → jm_get L 1 = some (0, 3) → jm_get L 2 = some (1, l2) → jm_get L 4 = some (0, l4) → Inv φ → 8 - l4 < (n : Int) → 0 ≤ l4 → l4 ≤ 8 → (∀ (r : Int), (-1 : Int) ≤ r ∧ r ≤ 7 ∧ (r = -1 ∨ (0 ≤ r ∧ r < φ 32 3 ∧ φ 32 3 ≤ 6)) → F_Plan_numberOf_31_k1_3_l3 n φ l2 l4 = r → Q (some (0, r)) φ x) → hw sc d 42 3 L [] φ x Q := by
  intro n
  induction n with
  | zero =>
    intro φ L l2 l4 g0 g1 g2 g4 hI hM b4a b4b hQ
    exfalso
    omega
  | succ n ih =>
    intro φ L l2 l4 g0 g1 g2 g4 hI hM b4a b4b hQ
    refine sf_42_31_k1_3_v3 g0 g1 g2 g4 ?_
    have e0 := F_Plan_numberOf_31_k1_3_l3_s (φ := φ) (l2 := l2) (l4 := l4) n
    have f1 := iv_at (a := 32) (k := 3) (lo := 0) (u := 6) hI (by decide +kernel)
    refine ⟨by unfold hi; omega, by unfold hi; omega, fun q1 => ?_, fun q1 => ?_⟩
    · skip
      have e1a := e0.trans (if_pos q1)
      exact hQ (-1 : Int) ⟨by omega, by omega, by omega⟩ e1a
    · skip
      have e1b := e0.trans (if_neg q1)
      refine ⟨by omega, by omega, ?_⟩
      have f2 := hr_cmp (φ 33 ((24 + l4).toNat)) l2
      refine ⟨by unfold hi; omega, fun q4 => ?_, fun q4 => ?_⟩
      · skip
        have e4a := e1b.trans (if_pos q4)
        exact ih φ (jm_st1 L 4 (0, l4 + 1)) l2 (l4 + 1) (get_st1 g0 (by decide) (fun q => absurd q.1 (by decide))) (get_st1 g1 (by decide) (fun q => absurd q.1 (by decide))) (get_st1 g2 (by decide) (fun q => absurd q.1 (by decide))) get_st1e hI (by omega) (by omega) (by omega) (fun rr hpχ hEχ => hQ rr hpχ (e4a.trans hEχ))
      · skip
        have e4b := e1b.trans (if_neg q4)
        exact hQ l4 ⟨by omega, by omega, by omega⟩ e4b
theorem sf_42_31_k1_3_v {sc : List Int} {d : Nat} {φ : hf_F} {x : Nat} {Q : Option jm_V → hf_F → Nat → Prop} {v2 : Int}
    (H : hw sc d 42 3 (jm_st1 [(0, (2, 31)), (1, (0, 3)), (2, (1, v2))] 4 (0, 0)) [] φ x Q) :
    hw sc d 42 0 [(0, (2, 31)), (1, (0, 3)), (2, (1, v2))] [] φ x Q := by
  refine hw_k (c := 0) (b := 0) (e := 1) (by decide +kernel) ?_
  refine hw_st (L' := (jm_st1 [(0, (2, 31)), (1, (0, 3)), (2, (1, v2))] 4 (0, 0))) (b := 4) (e := 1) (by decide +kernel) rfl ?_
  exact H
theorem sf_42_31_k1_3 {sc : List Int} {d : Nat} {φ : hf_F} {x : Nat} {Q : Option jm_V → hf_F → Nat → Prop} {v2 : Int} (hI : Inv φ)  (hQ : ∀ (r : Int), (-1 : Int) ≤ r ∧ r ≤ 7 ∧ (r = -1 ∨ (0 ≤ r ∧ r < φ 32 3 ∧ φ 32 3 ≤ 6)) → F_Plan_numberOf_31_k1_3 φ v2 = r → Q (some (0, r)) φ x) : hw sc d 42 0 [(0, (2, 31)), (1, (0, 3)), (2, (1, v2))] [] φ x Q := by
  apply sf_42_31_k1_3_v
  have e0 : F_Plan_numberOf_31_k1_3 φ v2 = _ := rfl
  exact sf_42_31_k1_3_l3 ((8 - 0 : Int).toNat + 1) φ (jm_st1 [(0, (2, 31)), (1, (0, 3)), (2, (1, v2))] 4 (0, 0)) v2 0 (get_st1 rfl (by decide) (fun q => absurd q.1 (by decide))) (get_st1 rfl (by decide) (fun q => absurd q.1 (by decide))) (get_st1 rfl (by decide) (fun q => absurd q.1 (by decide))) get_st1e hI (by omega) (by omega) (by omega) (fun rr hpχ hEχ => hQ rr hpχ (e0.trans hEχ))
theorem sf_47_1_31_k2_3_v {sc : List Int} {d : Nat} {φ : hf_F} {x : Nat} {Q : Option jm_V → hf_F → Nat → Prop} 
    (H : hi (φ 1 5) ∧ hi 2 ∧ ((φ 1 5) = 2 → hw sc d 42 0 [(0, (2, 31)), (1, (0, 3)), (2, (1, φ 1 8))] [] φ x (fun r ψ2 y2 => y2 = x ∧ φ = ψ2 ∧ (∃ z2 : Int, r = some (0, z2) ∧ (hi z2 ∧ hi (-1 : Int) ∧ (¬ z2 = (-1 : Int) → Q (some (0, z2)) φ x) ∧ (¬ (¬ z2 = (-1 : Int)) → hw sc d 37 0 [(0, (2, 1)), (1, (0, 3))] [] φ x (fun r ψ5 y5 => y5 = x ∧ (∃ z5 : Int, r = some (0, z5) ∧ (Q (some (0, z2)) ψ5 x)))))))) ∧ (¬ (φ 1 5) = 2 → hw sc d 37 0 [(0, (2, 1)), (1, (0, 1))] [] φ x (fun r ψ7 y7 => y7 = x ∧ (∃ z7 : Int, r = some (0, z7) ∧ (Q (some (0, (-1 : Int))) ψ7 x))))) :
    hw sc (d + 1) 47 0 [(0, (2, 1)), (1, (2, 31)), (2, (0, 3))] [] φ x Q := by
  refine hw_ald (b := 0) (e := 0) (by decide +kernel) rfl (by decide) ?_
  refine hr_gi (w := φ 1 5) (b := 1) (e := 5) 1 rfl (by decide +kernel) rfl ?_
  refine hw_k (c := 2) (b := 0) (e := 1) (by decide +kernel) ?_
  obtain ⟨hz1, hy1, ht1, hf1⟩ := H
  refine hw_if2 (a0 := 0) (b := 0) (e := 16) (by decide +kernel) hz1 hy1 (fun q => ?_) (fun q => ?_)
  · have H := ht1 q
    refine hw_ald (b := 1) (e := 0) (by decide +kernel) rfl (by decide) ?_
    refine hw_ld (b := 2) (e := 0) (by decide +kernel) rfl ?_
    refine hw_ald (b := 0) (e := 0) (by decide +kernel) rfl (by decide) ?_
    refine hr_gl (w := φ 1 8) (b := 1) (e := 8) 1 rfl (by decide +kernel) rfl ?_
    refine hr_call (a0 := 13) (b := 42) (e := 3) (nl := 5) (As := [(0, 3), (1, φ 1 8)]) (R := []) 31 rfl (by decide +kernel) rfl rfl (Nat.le_of_ble_eq_true rfl) (Nat.le_of_ble_eq_true rfl) ?_
    refine hw_mono H ?_
    rintro r ψ2 y2 ⟨hyx, hψx, z2, hr, H⟩
    subst hyx
    subst hψx
    subst hr
    refine ⟨hne0, ?_⟩
    show hw sc (d + 1) 47 25 [(0, (2, 1)), (1, (2, 31)), (2, (0, 3))] [(0, z2)] φ y2 Q
    refine hw_st (L' := (jm_st1 [(0, (2, 1)), (1, (2, 31)), (2, (0, 3))] 3 (0, z2))) (b := 3) (e := 0) (by decide +kernel) rfl ?_
    refine hw_ld (b := 3) (e := 0) (by decide +kernel) get_st1e ?_
    refine hw_k (c := (-1 : Int)) (b := 0) (e := 1) (by decide +kernel) ?_
    obtain ⟨hz3, hy3, ht3, hf3⟩ := H
    refine hw_if2 (a0 := 0) (b := 1) (e := 37) (by decide +kernel) hz3 hy3 (fun q => ?_) (fun q => ?_)
    · have H := ht3 q
      refine hw_ld (b := 3) (e := 0) (by decide +kernel) get_st1e ?_
      exact hw_ret (a0 := 0) (e := 0) (by decide +kernel) (Or.inl rfl) H
    · have H := hf3 q
      refine hw_ald (b := 0) (e := 0) (by decide +kernel) (get_st1 rfl (by decide) (fun q => absurd q.1 (by decide))) (by decide) ?_
      refine hw_k (c := 3) (b := 0) (e := 1) (by decide +kernel) ?_
      refine hr_call (a0 := 11) (b := 37) (e := 2) (nl := 2) (As := [(0, 3)]) (R := []) 1 rfl (by decide +kernel) rfl rfl (Nat.le_of_ble_eq_true rfl) (Nat.le_of_ble_eq_true rfl) ?_
      refine hw_mono H ?_
      rintro r ψ5 y5 ⟨hyx, z5, hr, H⟩
      subst hyx
      subst hr
      refine ⟨hne0, ?_⟩
      show hw sc (d + 1) 47 36 (jm_st1 [(0, (2, 1)), (1, (2, 31)), (2, (0, 3))] 3 (0, z2)) [(0, z5)] ψ5 y5 Q
      refine hw_pop (a0 := 0) (e := 0) (by decide +kernel) (by decide) ?_
      refine hw_ld (b := 3) (e := 0) (by decide +kernel) get_st1e ?_
      exact hw_ret (a0 := 0) (e := 0) (by decide +kernel) (Or.inl rfl) H
  · have H := hf1 q
    refine hw_ald (b := 0) (e := 0) (by decide +kernel) rfl (by decide) ?_
    refine hw_k (c := 1) (b := 0) (e := 1) (by decide +kernel) ?_
    refine hr_call (a0 := 11) (b := 37) (e := 2) (nl := 2) (As := [(0, 1)]) (R := []) 1 rfl (by decide +kernel) rfl rfl (Nat.le_of_ble_eq_true rfl) (Nat.le_of_ble_eq_true rfl) ?_
    refine hw_mono H ?_
    rintro r ψ7 y7 ⟨hyx, z7, hr, H⟩
    subst hyx
    subst hr
    refine ⟨hne0, ?_⟩
    show hw sc (d + 1) 47 13 [(0, (2, 1)), (1, (2, 31)), (2, (0, 3))] [(0, z7)] ψ7 y7 Q
    refine hw_pop (a0 := 0) (e := 0) (by decide +kernel) (by decide) ?_
    refine hw_k (c := (-1 : Int)) (b := 0) (e := 1) (by decide +kernel) ?_
    exact hw_ret (a0 := 0) (e := 0) (by decide +kernel) (Or.inl rfl) H
theorem sf_47_1_31_k2_3 {sc : List Int} {d : Nat} {φ : hf_F} {x : Nat} {Q : Option jm_V → hf_F → Nat → Prop}  (hI : Inv φ)  (hQ : ∀ (r : Int) (ψ : hf_F), Inv ψ → Fr [2009, 2010] φ ψ → (-1 : Int) ≤ r ∧ r ≤ 7 ∧ (r = -1 ∨ (0 ≤ r ∧ r < φ 32 3 ∧ φ 32 3 ≤ 6)) → F_Reader_peekNamed_1_31_k2_3 φ = (r, ψ) → Q (some (0, r)) ψ x) : hw sc (d + 1) 47 0 [(0, (2, 1)), (1, (2, 31)), (2, (0, 3))] [] φ x Q := by
  apply sf_47_1_31_k2_3_v
  have e0 : F_Reader_peekNamed_1_31_k2_3 φ = _ := rfl
  have f1 := iv_at (a := 1) (k := 5) (lo := 0) (u := 5) hI (by decide +kernel)
  refine ⟨by unfold hi; omega, by unfold hi; omega, fun q1 => ?_, fun q1 => ?_⟩
  · skip
    have e1a := e0.trans (if_pos q1)
    refine sf_42_31_k1_3 (φ := φ) hI  (fun z2 hp2 hE2 => ⟨rfl, rfl, z2, rfl, ?_⟩)
    have e2 := e1a.trans (bnp_e hE2)
    have f2 := iv_at (a := 32) (k := 3) (lo := 0) (u := 6) hI (by decide +kernel)
    refine ⟨by unfold hi; omega, by unfold hi; omega, fun q3 => ?_, fun q3 => ?_⟩
    · skip
      have e3a := e2.trans (if_pos q3)
      exact hQ z2 φ hI (fr_rf) ⟨by omega, by omega, by omega⟩ e3a
    · skip
      have e3b := e2.trans (if_neg q3)
      refine sf_37_1 (φ := φ) hI (by omega) (by omega) (fun z5 ψ5 hI5 hF5 hp5 hE5 => ⟨rfl, z5, rfl, ?_⟩)
      have hG5 : Fr [2009, 2010] φ ψ5 := fr_tr (fr_rf) hF5 (by decide)
      have e5 := e3b.trans (bnd_e hE5)
      exact hQ z2 ψ5 hI5 hG5 ⟨by omega, by omega, by omega⟩ e5
  · skip
    have e1b := e0.trans (if_neg q1)
    refine sf_37_1 (φ := φ) hI (by omega) (by omega) (fun z7 ψ7 hI7 hF7 hp7 hE7 => ⟨rfl, z7, rfl, ?_⟩)
    have hG7 : Fr [2009, 2010] φ ψ7 := fr_tr (fr_rf) hF7 (by decide)
    have e7 := e1b.trans (bnd_e hE7)
    have f3 := iv_at (a := 32) (k := 3) (lo := 0) (u := 6) hI (by decide +kernel)
    exact hQ (-1 : Int) ψ7 hI7 hG7 ⟨by omega, by omega, by omega⟩ e7
theorem sf_54_43_v {sc : List Int} {d : Nat} {φ : hf_F} {x : Nat} {Q : Option jm_V → hf_F → Nat → Prop} {v1 : Int}
    (H : 0 ≤ v1 ∧ v1 < 6 ∧ (hi (φ 47 ((v1).toNat)) ∧ hi 6 ∧ ((φ 47 ((v1).toNat)) < 6 → Q (some (0, 0)) φ x) ∧ (¬ (φ 47 ((v1).toNat)) < 6 → Q (some (0, 1)) φ x))) :
    hw sc d 54 0 [(0, (2, 43)), (1, (0, v1))] [] φ x Q := by
  refine hw_ald (b := 0) (e := 0) (by decide +kernel) rfl (by decide) ?_
  refine hr_gr (w := 47) (b := 4) (e := 9) 43 rfl (by decide +kernel) ?_
  refine hw_ld (b := 1) (e := 0) (by decide +kernel) rfl ?_
  obtain ⟨hl1, hu1, H⟩ := H
  refine hr_al (b := 0) (a0 := 0) (e := 0) (n := 6) (w := φ 47 ((v1).toNat)) 47 rfl (by decide +kernel) (by decide) hl1 hu1 rfl ?_
  refine hw_k (c := 6) (b := 1) (e := 2) (by decide +kernel) ?_
  obtain ⟨hz2, hy2, ht2, hf2⟩ := H
  refine hw_if2 (a0 := 0) (b := 2) (e := 15) (by decide +kernel) hz2 hy2 (fun q => ?_) (fun q => ?_)
  · have H := ht2 q
    refine hw_k (c := 0) (b := 0) (e := 1) (by decide +kernel) ?_
    exact hw_ret (a0 := 0) (e := 0) (by decide +kernel) (Or.inl rfl) H
  · have H := hf2 q
    refine hw_k (c := 1) (b := 0) (e := 1) (by decide +kernel) ?_
    refine hw_goto (a0 := 0) (b := 0) (e := 16) (by decide +kernel) ?_
    exact hw_ret (a0 := 0) (e := 0) (by decide +kernel) (Or.inl rfl) H
theorem sf_54_43 {sc : List Int} {d : Nat} {φ : hf_F} {x : Nat} {Q : Option jm_V → hf_F → Nat → Prop} {v1 : Int} (hI : Inv φ) (h1a : 0 ≤ v1) (h1b : v1 ≤ 5) (hQ : ∀ (r : Int), 0 ≤ r ∧ r ≤ 1 ∧ (r = 0 → φ 47 ((v1).toNat) ≤ 5) → F_State_whyNotLearn_43 φ v1 = r → Q (some (0, r)) φ x) : hw sc d 54 0 [(0, (2, 43)), (1, (0, v1))] [] φ x Q := by
  apply sf_54_43_v
  have e0 : F_State_whyNotLearn_43 φ v1 = _ := rfl
  refine ⟨by omega, by omega, ?_⟩
  have f1 := iv_ar (a := 47) (s := 0) (t := 6) (lo := 0) (u := 6) (z := v1) hI (by decide +kernel) (by omega) (by omega)
  refine ⟨by unfold hi; omega, by unfold hi; omega, fun q2 => ?_, fun q2 => ?_⟩
  · skip
    have e2a := e0.trans (if_pos q2)
    exact hQ 0 ⟨by omega, by omega, by omega⟩ e2a
  · skip
    have e2b := e0.trans (if_neg q2)
    exact hQ 1 ⟨by omega, by omega, by omega⟩ e2b
