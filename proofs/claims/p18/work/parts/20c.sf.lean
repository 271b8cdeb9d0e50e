theorem sf_149_52_v {sc : List Int} {d : Nat} {φ : hf_F} {x : Nat} {Q : Option jm_V → hf_F → Nat → Prop} {v1 v2 v3 : Int}
    (H : hi (φ 52 3) ∧ hi 40 ∧ (40 ≤ (φ 52 3) → Q (some (0, 1)) φ x) ∧ (¬ 40 ≤ (φ 52 3) → 0 ≤ (φ 52 3) ∧ (φ 52 3) < 40 ∧ (0 ≤ (φ 52 3) ∧ (φ 52 3) < 40 ∧ (0 ≤ (φ 52 3) ∧ (φ 52 3) < 40 ∧ (Q (some (0, 1)) (hf_up (hf_up (hf_up (hf_up φ 53 ((φ 52 3).toNat) v1) 54 ((φ 52 3).toNat) v2) 55 ((φ 52 3).toNat) v3) 52 3 ((φ 52 3) + 1)) x))))) :
    hw sc d 149 0 [(0, (2, 52)), (1, (0, v1)), (2, (0, v2)), (3, (0, v3))] [] φ x Q := by
  refine hw_ald (b := 0) (e := 0) (by decide +kernel) rfl (by decide) ?_
  refine hr_gi (w := φ 52 3) (b := 5) (e := 3) 52 rfl (by decide +kernel) rfl ?_
  refine hw_k (c := 40) (b := 1) (e := 2) (by decide +kernel) ?_
  obtain ⟨hz1, hy1, ht1, hf1⟩ := H
  refine hw_if2 (a0 := 0) (b := 3) (e := 49) (by decide +kernel) hz1 hy1 (fun q => ?_) (fun q => ?_)
  · have H := ht1 q
    refine hw_k (c := 1) (b := 0) (e := 1) (by decide +kernel) ?_
    exact hw_ret (a0 := 0) (e := 1) (by decide +kernel) (Or.inr ⟨rfl, by decide⟩) H
  · have H := hf1 q
    refine hw_ald (b := 0) (e := 0) (by decide +kernel) rfl (by decide) ?_
    refine hr_gr (w := 53) (b := 5) (e := 0) 52 rfl (by decide +kernel) ?_
    refine hw_ald (b := 0) (e := 0) (by decide +kernel) rfl (by decide) ?_
    refine hr_gi (w := φ 52 3) (b := 5) (e := 3) 52 rfl (by decide +kernel) rfl ?_
    refine hw_ld (b := 1) (e := 0) (by decide +kernel) rfl ?_
    obtain ⟨hl3, hu3, H⟩ := H
    refine hr_as (a0 := 0) (e := 4) (n := 40) 53 rfl (by decide +kernel) hl3 hu3 ?_
    refine hw_ald (b := 0) (e := 0) (by decide +kernel) rfl (by decide) ?_
    refine hr_gr (w := 54) (b := 5) (e := 1) 52 rfl (by decide +kernel) ?_
    refine hw_ald (b := 0) (e := 0) (by decide +kernel) rfl (by decide) ?_
    refine hr_gi (w := φ 52 3) (b := 5) (e := 3) 52 rfl (by decide +kernel) (hf_up_ne (fun q => absurd q.1 (by decide))) ?_
    refine hw_ld (b := 2) (e := 0) (by decide +kernel) rfl ?_
    obtain ⟨hl4, hu4, H⟩ := H
    refine hr_as (a0 := 0) (e := 4) (n := 40) 54 rfl (by decide +kernel) hl4 hu4 ?_
    refine hw_ald (b := 0) (e := 0) (by decide +kernel) rfl (by decide) ?_
    refine hr_gr (w := 55) (b := 5) (e := 2) 52 rfl (by decide +kernel) ?_
    refine hw_ald (b := 0) (e := 0) (by decide +kernel) rfl (by decide) ?_
    refine hr_gi (w := φ 52 3) (b := 5) (e := 3) 52 rfl (by decide +kernel) ((hf_up_ne (fun q => absurd q.1 (by decide))).trans (hf_up_ne (fun q => absurd q.1 (by decide)))) ?_
    refine hw_ld (b := 3) (e := 0) (by decide +kernel) rfl ?_
    obtain ⟨hl5, hu5, H⟩ := H
    refine hr_as (a0 := 0) (e := 4) (n := 40) 55 rfl (by decide +kernel) hl5 hu5 ?_
    refine hw_ald (b := 0) (e := 0) (by decide +kernel) rfl (by decide) ?_
    refine hw_dup (a0 := 0) (e := 0) (by decide +kernel) (by decide) ?_
    refine hr_gi (w := φ 52 3) (b := 5) (e := 3) 52 rfl (by decide +kernel) ((hf_up_ne (fun q => absurd q.1 (by decide))).trans ((hf_up_ne (fun q => absurd q.1 (by decide))).trans (hf_up_ne (fun q => absurd q.1 (by decide))))) ?_
    refine hw_k (c := 1) (b := 0) (e := 1) (by decide +kernel) ?_
    refine hw_bin (w := (φ 52 3) + 1) (a0 := 0) (b := 0) (e := 0) (by decide +kernel) rfl ?_
    refine hr_pi (b := 5) (e := 3) 52 rfl (by decide +kernel) ?_
    refine hw_k (c := 1) (b := 0) (e := 1) (by decide +kernel) ?_
    exact hw_ret (a0 := 0) (e := 1) (by decide +kernel) (Or.inr ⟨rfl, by decide⟩) H
theorem sf_149_52 {sc : List Int} {d : Nat} {φ : hf_F} {x : Nat} {Q : Option jm_V → hf_F → Nat → Prop} {v1 v2 v3 : Int} (hI : Inv φ) (h1a : 0 ≤ v1) (h1b : v1 ≤ 22) (h2a : 0 ≤ v2) (h2b : v2 ≤ 62) (h3a : 0 ≤ v3) (h3b : v3 ≤ 999) (hQ : ∀ (r : Int) (ψ : hf_F), Inv ψ → Fr [53, 54, 55, 53003] φ ψ → 0 ≤ r ∧ r ≤ 1 → F_Sentence_add_52 φ v1 v2 v3 = (r, ψ) → Q (some (0, r)) ψ x) : hw sc d 149 0 [(0, (2, 52)), (1, (0, v1)), (2, (0, v2)), (3, (0, v3))] [] φ x Q := by
  apply sf_149_52_v
  have e0 : F_Sentence_add_52 φ v1 v2 v3 = _ := rfl
  have f1 := iv_at (a := 52) (k := 3) (lo := 0) (u := 40) hI (by decide +kernel)
  refine ⟨by unfold hi; omega, by unfold hi; omega, fun q1 => ?_, fun q1 => ?_⟩
  · skip
    have e1a := e0.trans (if_pos q1)
    exact hQ 1 φ hI (fr_rf) ⟨by omega, by omega⟩ e1a
  · skip
    have e1b := e0.trans (if_neg q1)
    refine ⟨by omega, by omega, ?_⟩
    have i2 : Inv (hf_up φ 53 ((φ 52 3).toNat) v1) := iv_upI (s := 0) (t := 40) (lo := 0) (u := 22) (z := φ 52 3) hI (by decide +kernel) (by omega) (by omega) (by omega) (by omega)
    have r2 : Fr [53, 54, 55, 53003] φ (hf_up φ 53 ((φ 52 3).toNat) v1) := fr_upa (fr_rf) (by decide)
    refine ⟨by omega, by omega, ?_⟩
    have i3 : Inv (hf_up (hf_up φ 53 ((φ 52 3).toNat) v1) 54 ((φ 52 3).toNat) v2) := iv_upI (s := 0) (t := 40) (lo := 0) (u := 62) (z := φ 52 3) i2 (by decide +kernel) (by omega) (by omega) (by omega) (by omega)
    have r3 : Fr [53, 54, 55, 53003] φ (hf_up (hf_up φ 53 ((φ 52 3).toNat) v1) 54 ((φ 52 3).toNat) v2) := fr_upa r2 (by decide)
    refine ⟨by omega, by omega, ?_⟩
    have i4 : Inv (hf_up (hf_up (hf_up φ 53 ((φ 52 3).toNat) v1) 54 ((φ 52 3).toNat) v2) 55 ((φ 52 3).toNat) v3) := iv_upI (s := 0) (t := 40) (lo := 0) (u := 999) (z := φ 52 3) i3 (by decide +kernel) (by omega) (by omega) (by omega) (by omega)
    have r4 : Fr [53, 54, 55, 53003] φ (hf_up (hf_up (hf_up φ 53 ((φ 52 3).toNat) v1) 54 ((φ 52 3).toNat) v2) 55 ((φ 52 3).toNat) v3) := fr_upa r3 (by decide)
    have i5 : Inv (hf_up (hf_up (hf_up (hf_up φ 53 ((φ 52 3).toNat) v1) 54 ((φ 52 3).toNat) v2) 55 ((φ 52 3).toNat) v3) 52 3 ((φ 52 3) + 1)) := iv_up (lo := 0) (u := 40) i4 (by decide +kernel) (by omega) (by omega)
    have r5 : Fr [53, 54, 55, 53003] φ (hf_up (hf_up (hf_up (hf_up φ 53 ((φ 52 3).toNat) v1) 54 ((φ 52 3).toNat) v2) 55 ((φ 52 3).toNat) v3) 52 3 ((φ 52 3) + 1)) := fr_up r4 (by decide)
    exact hQ 1 (hf_up (hf_up (hf_up (hf_up φ 53 ((φ 52 3).toNat) v1) 54 ((φ 52 3).toNat) v2) 55 ((φ 52 3).toNat) v3) 52 3 ((φ 52 3) + 1)) i5 r5 ⟨by omega, by omega⟩ e1b
theorem sf_155_v {sc : List Int} {d : Nat} {φ : hf_F} {x : Nat} {Q : Option jm_V → hf_F → Nat → Prop} {v0 v1 v2 : Int}
    (H : hi v1 ∧ hi 60 ∧ (¬ v1 = 60 → hi v1 ∧ hi 61 ∧ (¬ v1 = 61 → hi v2 ∧ ((jm_n v0) ≤ v2 → Q (some (0, 0)) φ x) ∧ (¬ (jm_n v0) ≤ v2 → Q (some (0, 1)) φ x)) ∧ (¬ (¬ v1 = 61) → hi v2 ∧ (¬ (jm_n v0) = v2 → Q (some (0, 0)) φ x) ∧ (¬ (¬ (jm_n v0) = v2) → Q (some (0, 1)) φ x))) ∧ (¬ (¬ v1 = 60) → hi v2 ∧ (v2 ≤ (jm_n v0) → Q (some (0, 0)) φ x) ∧ (¬ v2 ≤ (jm_n v0) → Q (some (0, 1)) φ x))) :
    hw sc d 155 0 [(0, (0, v0)), (1, (0, v1)), (2, (0, v2))] [] φ x Q := by
  refine hw_ld (b := 1) (e := 0) (by decide +kernel) rfl ?_
  refine hw_k (c := 60) (b := 1) (e := 2) (by decide +kernel) ?_
  obtain ⟨hz1, hy1, ht1, hf1⟩ := H
  refine hw_if2 (a0 := 0) (b := 1) (e := 17) (by decide +kernel) hz1 hy1 (fun q => ?_) (fun q => ?_)
  · have H := ht1 q
    refine hw_ld (b := 1) (e := 0) (by decide +kernel) rfl ?_
    refine hw_k (c := 61) (b := 1) (e := 2) (by decide +kernel) ?_
    obtain ⟨hz2, hy2, ht2, hf2⟩ := H
    refine hw_if2 (a0 := 0) (b := 1) (e := 36) (by decide +kernel) hz2 hy2 (fun q => ?_) (fun q => ?_)
    · have H := ht2 q
      refine hw_ld (b := 0) (e := 0) (by decide +kernel) rfl ?_
      refine hw_ld (b := 2) (e := 0) (by decide +kernel) rfl ?_
      obtain ⟨hz3, ht3, hf3⟩ := H
      refine hw_if2l (a0 := 0) (b := 5) (e := 45) (by decide +kernel) hz3 (fun q => ?_) (fun q => ?_)
      · have H := ht3 q
        refine hw_k (c := 0) (b := 0) (e := 1) (by decide +kernel) ?_
        exact hw_ret (a0 := 0) (e := 1) (by decide +kernel) (Or.inr ⟨rfl, by decide⟩) H
      · have H := hf3 q
        refine hw_k (c := 1) (b := 0) (e := 1) (by decide +kernel) ?_
        refine hw_goto (a0 := 0) (b := 0) (e := 46) (by decide +kernel) ?_
        exact hw_ret (a0 := 0) (e := 1) (by decide +kernel) (Or.inr ⟨rfl, by decide⟩) H
    · have H := hf2 q
      refine hw_ld (b := 0) (e := 0) (by decide +kernel) rfl ?_
      refine hw_ld (b := 2) (e := 0) (by decide +kernel) rfl ?_
      obtain ⟨hz6, ht6, hf6⟩ := H
      refine hw_if2l (a0 := 0) (b := 1) (e := 32) (by decide +kernel) hz6 (fun q => ?_) (fun q => ?_)
      · have H := ht6 q
        refine hw_k (c := 0) (b := 0) (e := 1) (by decide +kernel) ?_
        refine hw_goto (a0 := 0) (b := 0) (e := 46) (by decide +kernel) ?_
        exact hw_ret (a0 := 0) (e := 1) (by decide +kernel) (Or.inr ⟨rfl, by decide⟩) H
      · have H := hf6 q
        refine hw_k (c := 1) (b := 0) (e := 1) (by decide +kernel) ?_
        refine hw_goto (a0 := 0) (b := 0) (e := 46) (by decide +kernel) ?_
        exact hw_ret (a0 := 0) (e := 1) (by decide +kernel) (Or.inr ⟨rfl, by decide⟩) H
  · have H := hf1 q
    refine hw_ld (b := 0) (e := 0) (by decide +kernel) rfl ?_
    refine hw_ld (b := 2) (e := 0) (by decide +kernel) rfl ?_
    obtain ⟨hz9, ht9, hf9⟩ := H
    refine hw_if2l (a0 := 0) (b := 3) (e := 15) (by decide +kernel) hz9 (fun q => ?_) (fun q => ?_)
    · have H := ht9 q
      refine hw_k (c := 0) (b := 0) (e := 1) (by decide +kernel) ?_
      exact hw_ret (a0 := 0) (e := 1) (by decide +kernel) (Or.inr ⟨rfl, by decide⟩) H
    · have H := hf9 q
      refine hw_k (c := 1) (b := 0) (e := 1) (by decide +kernel) ?_
      refine hw_goto (a0 := 0) (b := 0) (e := 16) (by decide +kernel) ?_
      exact hw_ret (a0 := 0) (e := 1) (by decide +kernel) (Or.inr ⟨rfl, by decide⟩) H
theorem sf_155 {sc : List Int} {d : Nat} {φ : hf_F} {x : Nat} {Q : Option jm_V → hf_F → Nat → Prop} {v0 v1 v2 : Int} (hI : Inv φ) (h1a : 0 ≤ v1) (h1b : v1 ≤ 62) (h2a : 0 ≤ v2) (h2b : v2 ≤ 999) (hQ : ∀ (r : Int), 0 ≤ r ∧ r ≤ 1 → F_Sentence_isSo φ v0 v1 v2 = r → Q (some (0, r)) φ x) : hw sc d 155 0 [(0, (0, v0)), (1, (0, v1)), (2, (0, v2))] [] φ x Q := by
  apply sf_155_v
  have e0 : F_Sentence_isSo φ v0 v1 v2 = _ := rfl
  refine ⟨by unfold hi; omega, by unfold hi; omega, fun q1 => ?_, fun q1 => ?_⟩
  · skip
    have e1a := e0.trans (if_pos q1)
    refine ⟨by unfold hi; omega, by unfold hi; omega, fun q2 => ?_, fun q2 => ?_⟩
    · skip
      have e2a := e1a.trans (if_pos q2)
      have f1 := hr_n v0
      refine ⟨by unfold hi; omega, fun q3 => ?_, fun q3 => ?_⟩
      · skip
        have e3a := e2a.trans (if_pos q3)
        exact hQ 0 ⟨by omega, by omega⟩ e3a
      · skip
        have e3b := e2a.trans (if_neg q3)
        exact hQ 1 ⟨by omega, by omega⟩ e3b
    · skip
      have e2b := e1a.trans (if_neg q2)
      have f2 := hr_n v0
      refine ⟨by unfold hi; omega, fun q6 => ?_, fun q6 => ?_⟩
      · skip
        have e6a := e2b.trans (if_pos q6)
        exact hQ 0 ⟨by omega, by omega⟩ e6a
      · skip
        have e6b := e2b.trans (if_neg q6)
        exact hQ 1 ⟨by omega, by omega⟩ e6b
  · skip
    have e1b := e0.trans (if_neg q1)
    have f3 := hr_n v0
    refine ⟨by unfold hi; omega, fun q9 => ?_, fun q9 => ?_⟩
    · skip
      have e9a := e1b.trans (if_pos q9)
      exact hQ 0 ⟨by omega, by omega⟩ e9a
    · skip
      have e9b := e1b.trans (if_neg q9)
      exact hQ 1 ⟨by omega, by omega⟩ e9b
theorem sf_54_17_v {sc : List Int} {d : Nat} {φ : hf_F} {x : Nat} {Q : Option jm_V → hf_F → Nat → Prop} {v1 : Int}
    (H : 0 ≤ v1 ∧ v1 < 6 ∧ (hi (φ 21 ((v1).toNat)) ∧ hi 6 ∧ ((φ 21 ((v1).toNat)) < 6 → Q (some (0, 0)) φ x) ∧ (¬ (φ 21 ((v1).toNat)) < 6 → Q (some (0, 1)) φ x))) :
    hw sc d 54 0 [(0, (2, 17)), (1, (0, v1))] [] φ x Q := by
  refine hw_ald (b := 0) (e := 0) (by decide +kernel) rfl (by decide) ?_
  refine hr_gr (w := 21) (b := 4) (e := 9) 17 rfl (by decide +kernel) ?_
  refine hw_ld (b := 1) (e := 0) (by decide +kernel) rfl ?_
  obtain ⟨hl1, hu1, H⟩ := H
  refine hr_al (b := 0) (a0 := 0) (e := 0) (n := 6) (w := φ 21 ((v1).toNat)) 21 rfl (by decide +kernel) (by decide) hl1 hu1 rfl ?_
  refine hw_k (c := 6) (b := 1) (e := 2) (by decide +kernel) ?_
  obtain ⟨hz2, hy2, ht2, hf2⟩ := H
  refine hw_if2 (a0 := 0) (b := 2) (e := 15) (by decide +kernel) hz2 hy2 (fun q => ?_) (fun q => ?_)
  · have H := ht2 q
    refine hw_k (c := 0) (b := 0) (e := 1) (by decide +kernel) ?_
    exact hw_ret (a0 := 0) (e := 0) (by decide +kernel) (Or.inl rfl) H
  · have H := hf2 q
    refine hw_k (c := 1) (b := 0) (e := 1) (by decide +kernel) ?_
    refine hw_goto (a0 := 0) (b := 0) (e := 16) (by decide +kernel) ?_
    exact hw_ret (a0 := 0) (e := 0) (by decide +kernel) (Or.inl rfl) H
theorem sf_54_17 {sc : List Int} {d : Nat} {φ : hf_F} {x : Nat} {Q : Option jm_V → hf_F → Nat → Prop} {v1 : Int} (hI : Inv φ) (h1a : 0 ≤ v1) (h1b : v1 ≤ 5) (hQ : ∀ (r : Int), 0 ≤ r ∧ r ≤ 1 ∧ (r = 0 → φ 21 ((v1).toNat) ≤ 5) → F_State_whyNotLearn_17 φ v1 = r → Q (some (0, r)) φ x) : hw sc d 54 0 [(0, (2, 17)), (1, (0, v1))] [] φ x Q := by
  apply sf_54_17_v
  have e0 : F_State_whyNotLearn_17 φ v1 = _ := rfl
  refine ⟨by omega, by omega, ?_⟩
  have f1 := iv_ar (a := 21) (s := 0) (t := 6) (lo := 0) (u := 6) (z := v1) hI (by decide +kernel) (by omega) (by omega)
  refine ⟨by unfold hi; omega, by unfold hi; omega, fun q2 => ?_, fun q2 => ?_⟩
  · skip
    have e2a := e0.trans (if_pos q2)
    exact hQ 0 ⟨by omega, by omega, by omega⟩ e2a
  · skip
    have e2b := e0.trans (if_neg q2)
    exact hQ 1 ⟨by omega, by omega, by omega⟩ e2b
theorem sf_128_188_v {sc : List Int} {d : Nat} {φ : hf_F} {x : Nat} {Q : Option jm_V → hf_F → Nat → Prop} {v1 : Int}
    (H : hi v1 ∧ (v1 ≤ 0 → Q (some (0, 0)) (hf_up φ 188 0 (((φ 188 0) * 1103515245) + 12345)) x) ∧ (¬ v1 ≤ 0 → hi (hb_ushr (((φ 188 0) * 1103515245) + 12345) 8) ∧ hi v1 ∧ ¬ v1 = 0 ∧ (Q (some (0, (hb_ushr (((φ 188 0) * 1103515245) + 12345) 8).tmod v1)) (hf_up φ 188 0 (((φ 188 0) * 1103515245) + 12345)) x))) :
    hw sc d 128 0 [(0, (2, 188)), (1, (0, v1))] [] φ x Q := by
  refine hw_ald (b := 0) (e := 0) (by decide +kernel) rfl (by decide) ?_
  refine hw_ald (b := 0) (e := 0) (by decide +kernel) rfl (by decide) ?_
  refine hr_gi (w := φ 188 0) (b := 10) (e := 0) 188 rfl (by decide +kernel) rfl ?_
  refine hw_k (c := 1103515245) (b := 3) (e := 2) (by decide +kernel) ?_
  refine hw_bin (w := (φ 188 0) * 1103515245) (a0 := 0) (b := 2) (e := 0) (by decide +kernel) rfl ?_
  refine hw_k (c := 12345) (b := 2) (e := 3) (by decide +kernel) ?_
  refine hw_bin (w := ((φ 188 0) * 1103515245) + 12345) (a0 := 0) (b := 0) (e := 0) (by decide +kernel) rfl ?_
  refine hr_pi (b := 10) (e := 0) 188 rfl (by decide +kernel) ?_
  refine hw_ld (b := 1) (e := 0) (by decide +kernel) rfl ?_
  obtain ⟨hz1, ht1, hf1⟩ := H
  refine hw_if (a0 := 0) (b := 5) (e := 31) (by decide +kernel) hz1 (fun q => ?_) (fun q => ?_)
  · have H := ht1 q
    refine hw_k (c := 0) (b := 0) (e := 1) (by decide +kernel) ?_
    exact hw_ret (a0 := 0) (e := 0) (by decide +kernel) (Or.inl rfl) H
  · have H := hf1 q
    refine hw_ald (b := 0) (e := 0) (by decide +kernel) rfl (by decide) ?_
    refine hr_gi (w := ((φ 188 0) * 1103515245) + 12345) (b := 10) (e := 0) 188 rfl (by decide +kernel) hf_up_eq ?_
    refine hw_k (c := 8) (b := 1) (e := 2) (by decide +kernel) ?_
    refine hw_bin (w := hb_ushr (((φ 188 0) * 1103515245) + 12345) 8) (a0 := 0) (b := 8) (e := 0) (by decide +kernel) rfl ?_
    refine hw_ld (b := 1) (e := 0) (by decide +kernel) rfl ?_
    obtain ⟨hz3, hy3, hn3, H⟩ := H
    refine hw_bin (w := (hb_ushr (((φ 188 0) * 1103515245) + 12345) 8).tmod v1) (a0 := 0) (b := 10) (e := 0) (by decide +kernel) (hb_rem hz3 hy3 hn3) ?_
    refine hw_goto (a0 := 0) (b := 0) (e := 32) (by decide +kernel) ?_
    exact hw_ret (a0 := 0) (e := 0) (by decide +kernel) (Or.inl rfl) H
theorem sf_128_188 {sc : List Int} {d : Nat} {φ : hf_F} {x : Nat} {Q : Option jm_V → hf_F → Nat → Prop} {v1 : Int} (hI : Inv φ) (h1a : 0 ≤ v1) (h1b : v1 ≤ 12) (hQ : ∀ (r : Int) (ψ : hf_F), Inv ψ → Fr [189000] φ ψ → 0 ≤ r ∧ r ≤ 11 ∧ (0 < v1 → r < v1) → F_Draws_below_188 φ v1 = (r, ψ) → Q (some (0, r)) ψ x) : hw sc d 128 0 [(0, (2, 188)), (1, (0, v1))] [] φ x Q := by
  apply sf_128_188_v
  have e0 : F_Draws_below_188 φ v1 = _ := rfl
  have i1 : Inv (hf_up φ 188 0 (((φ 188 0) * 1103515245) + 12345)) := iv_upn hI (by decide) (by decide) (by decide +kernel)
  have r1 : Fr [189000] φ (hf_up φ 188 0 (((φ 188 0) * 1103515245) + 12345)) := fr_up (fr_rf) (by decide)
  refine ⟨by unfold hi; omega, fun q1 => ?_, fun q1 => ?_⟩
  · skip
    have e1a := e0.trans (if_pos q1)
    exact hQ 0 (hf_up φ 188 0 (((φ 188 0) * 1103515245) + 12345)) i1 r1 ⟨by omega, by omega, by omega⟩ e1a
  · skip
    have e1b := e0.trans (if_neg q1)
    have f2 := hr_ushr8 (((φ 188 0) * 1103515245) + 12345)
    have f3 := hr_ushr (((φ 188 0) * 1103515245) + 12345) 8
    refine ⟨by unfold hi; omega, by unfold hi; omega, by omega, ?_⟩
    have f4 := hr_tmod (z := hb_ushr (((φ 188 0) * 1103515245) + 12345) 8) (y := v1) (by omega) (by omega)
    exact hQ ((hb_ushr (((φ 188 0) * 1103515245) + 12345) 8).tmod v1) (hf_up φ 188 0 (((φ 188 0) * 1103515245) + 12345)) i1 r1 ⟨by omega, by omega, by omega⟩ e1b
theorem sf_45_31_k1_0_v {sc : List Int} {d : Nat} {φ : hf_F} {x : Nat} {Q : Option jm_V → hf_F → Nat → Prop} {v2 : Int}
    (H : 0 ≤ (0 + (φ 32 0)) ∧ (0 + (φ 32 0)) < 40 ∧ (Q (some (0, φ 32 0)) (hf_up (hf_up φ 33 ((0 + (φ 32 0)).toNat) v2) 32 0 ((φ 32 0) + 1)) x)) :
    hw sc d 45 0 [(0, (2, 31)), (1, (0, 0)), (2, (1, v2))] [] φ x Q := by
  refine hw_ald (b := 0) (e := 0) (by decide +kernel) rfl (by decide) ?_
  refine hr_gr (w := 32) (b := 3) (e := 0) 31 rfl (by decide +kernel) ?_
  refine hw_ld (b := 1) (e := 0) (by decide +kernel) rfl ?_
  refine hr_al (b := 0) (a0 := 0) (e := 0) (n := 5) (w := φ 32 0) 32 rfl (by decide +kernel) (by decide) (by decide) (by decide) rfl ?_
  refine hw_st (L' := (jm_st1 [(0, (2, 31)), (1, (0, 0)), (2, (1, v2))] 4 (0, φ 32 0))) (b := 4) (e := 1) (by decide +kernel) rfl ?_
  refine hw_ald (b := 0) (e := 0) (by decide +kernel) (get_st1 rfl (by decide) (fun q => absurd q.1 (by decide))) (by decide) ?_
  refine hr_gr (w := 33) (b := 3) (e := 1) 31 rfl (by decide +kernel) ?_
  refine hw_ld (b := 1) (e := 0) (by decide +kernel) (get_st1 rfl (by decide) (fun q => absurd q.1 (by decide))) ?_
  refine hw_k (c := 8) (b := 1) (e := 2) (by decide +kernel) ?_
  refine hw_bin (w := 0) (a0 := 0) (b := 2) (e := 0) (by decide +kernel) rfl ?_
  refine hw_ld (b := 4) (e := 1) (by decide +kernel) get_st1e ?_
  refine hw_bin (w := 0 + (φ 32 0)) (a0 := 0) (b := 0) (e := 0) (by decide +kernel) rfl ?_
  refine hw_lld (b := 2) (e := 0) (by decide +kernel) (get_st1 rfl (by decide) (fun q => absurd q.1 (by decide))) ?_
  obtain ⟨hl1, hu1, H⟩ := H
  refine hr_asl (a0 := 0) (e := 4) (n := 40) 33 rfl (by decide +kernel) hl1 hu1 ?_
  refine hw_ald (b := 0) (e := 0) (by decide +kernel) (get_st1 rfl (by decide) (fun q => absurd q.1 (by decide))) (by decide) ?_
  refine hr_gr (w := 32) (b := 3) (e := 0) 31 rfl (by decide +kernel) ?_
  refine hw_ld (b := 1) (e := 0) (by decide +kernel) (get_st1 rfl (by decide) (fun q => absurd q.1 (by decide))) ?_
  refine hw_dup2 (a0 := 0) (e := 0) (by decide +kernel) (by decide) (by decide) ?_
  refine hr_al (b := 0) (a0 := 0) (e := 0) (n := 5) (w := φ 32 0) 32 rfl (by decide +kernel) (by decide) (by decide) (by decide) (hf_up_ne (fun q => absurd q.1 (by decide))) ?_
  refine hw_k (c := 1) (b := 0) (e := 1) (by decide +kernel) ?_
  refine hw_bin (w := (φ 32 0) + 1) (a0 := 0) (b := 0) (e := 0) (by decide +kernel) rfl ?_
  refine hr_as (a0 := 0) (e := 4) (n := 5) 32 rfl (by decide +kernel) (by decide) (by decide) ?_
  refine hw_ld (b := 4) (e := 1) (by decide +kernel) get_st1e ?_
  exact hw_ret (a0 := 0) (e := 0) (by decide +kernel) (Or.inl rfl) H
theorem sf_45_31_k1_0 {sc : List Int} {d : Nat} {φ : hf_F} {x : Nat} {Q : Option jm_V → hf_F → Nat → Prop} {v2 : Int} (hI : Inv φ) (hx0 : 0 ≤ φ 32 0 ∧ φ 32 0 ≤ 2) (hQ : ∀ (r : Int) (ψ : hf_F), Inv ψ → Fr [32, 33] φ ψ → 0 ≤ r ∧ r ≤ 7 ∧ r ≤ 2 → F_Plan_addNamed_31_k1_0 φ v2 = (r, ψ) → Q (some (0, r)) ψ x) : hw sc d 45 0 [(0, (2, 31)), (1, (0, 0)), (2, (1, v2))] [] φ x Q := by
  apply sf_45_31_k1_0_v
  have e0 : F_Plan_addNamed_31_k1_0 φ v2 = _ := rfl
  have f1 := iv_at (a := 32) (k := 0) (lo := 0) (u := 3) hI (by decide +kernel)
  refine ⟨by omega, by omega, ?_⟩
  have i2 : Inv (hf_up φ 33 ((0 + (φ 32 0)).toNat) v2) := iv_upIn hI (by decide) (by decide +kernel)
  have r2 : Fr [32, 33] φ (hf_up φ 33 ((0 + (φ 32 0)).toNat) v2) := fr_upa (fr_rf) (by decide)
  have i3 : Inv (hf_up (hf_up φ 33 ((0 + (φ 32 0)).toNat) v2) 32 0 ((φ 32 0) + 1)) := iv_up (lo := 0) (u := 3) i2 (by decide +kernel) (by omega) (by omega)
  have r3 : Fr [32, 33] φ (hf_up (hf_up φ 33 ((0 + (φ 32 0)).toNat) v2) 32 0 ((φ 32 0) + 1)) := fr_upa r2 (by decide)
  exact hQ (φ 32 0) (hf_up (hf_up φ 33 ((0 + (φ 32 0)).toNat) v2) 32 0 ((φ 32 0) + 1)) i3 r3 ⟨by omega, by omega, by omega⟩ e0
theorem sf_44_31_v {sc : List Int} {d : Nat} {φ : hf_F} {x : Nat} {Q : Option jm_V → hf_F → Nat → Prop} {v1 v3 v4 : Int}
    (H : hw sc d 45 0 [(0, (2, 31)), (1, (0, 0)), (2, (1, v1))] [] φ x (fun r ψ1 y1 => y1 = x ∧ (∃ z1 : Int, r = some (0, z1) ∧ (0 ≤ z1 ∧ z1 < 3 ∧ (0 ≤ z1 ∧ z1 < 3 ∧ (Q none (hf_up (hf_up ψ1 34 ((z1).toNat) v3) 35 ((z1).toNat) v4) x)))))) :
    hw sc (d + 1) 44 0 [(0, (2, 31)), (1, (1, v1)), (3, (0, v3)), (4, (0, v4))] [] φ x Q := by
  refine hw_ald (b := 0) (e := 0) (by decide +kernel) rfl (by decide) ?_
  refine hw_k (c := 0) (b := 0) (e := 1) (by decide +kernel) ?_
  refine hw_lld (b := 1) (e := 0) (by decide +kernel) rfl ?_
  refine hr_call (a0 := 13) (b := 45) (e := 3) (nl := 5) (As := [(0, 0), (1, v1)]) (R := []) 31 rfl (by decide +kernel) rfl rfl (Nat.le_of_ble_eq_true rfl) (Nat.le_of_ble_eq_true rfl) ?_
  refine hw_mono H ?_
  rintro r ψ1 y1 ⟨hyx, z1, hr, H⟩
  subst hyx
  subst hr
  refine ⟨hne0, ?_⟩
  show hw sc (d + 1) 44 6 [(0, (2, 31)), (1, (1, v1)), (3, (0, v3)), (4, (0, v4))] [(0, z1)] ψ1 y1 Q
  refine hw_st (L' := (jm_st1 [(0, (2, 31)), (1, (1, v1)), (3, (0, v3)), (4, (0, v4))] 5 (0, z1))) (b := 5) (e := 1) (by decide +kernel) rfl ?_
  refine hw_ald (b := 0) (e := 0) (by decide +kernel) (get_st1 rfl (by decide) (fun q => absurd q.1 (by decide))) (by decide) ?_
  refine hr_gr (w := 34) (b := 3) (e := 2) 31 rfl (by decide +kernel) ?_
  refine hw_ld (b := 5) (e := 1) (by decide +kernel) get_st1e ?_
  refine hw_ld (b := 3) (e := 0) (by decide +kernel) (get_st1 rfl (by decide) (fun q => absurd q.1 (by decide))) ?_
  obtain ⟨hl2, hu2, H⟩ := H
  refine hr_as (a0 := 0) (e := 4) (n := 3) 34 rfl (by decide +kernel) hl2 hu2 ?_
  refine hw_ald (b := 0) (e := 0) (by decide +kernel) (get_st1 rfl (by decide) (fun q => absurd q.1 (by decide))) (by decide) ?_
  refine hr_gr (w := 35) (b := 3) (e := 3) 31 rfl (by decide +kernel) ?_
  refine hw_ld (b := 5) (e := 1) (by decide +kernel) get_st1e ?_
  refine hw_ld (b := 4) (e := 1) (by decide +kernel) (get_st1 rfl (by decide) (fun q => tg0 q.2)) ?_
  obtain ⟨hl3, hu3, H⟩ := H
  refine hr_as (a0 := 0) (e := 4) (n := 3) 35 rfl (by decide +kernel) hl3 hu3 ?_
  exact hw_vret (a0 := 0) (e := 0) (by decide +kernel) H
theorem sf_44_31 {sc : List Int} {d : Nat} {φ : hf_F} {x : Nat} {Q : Option jm_V → hf_F → Nat → Prop} {v1 v3 v4 : Int} (hI : Inv φ) (h3a : 2 ≤ v3) (h3b : v3 ≤ 30) (h4a : 1 ≤ v4) (h4b : v4 ≤ 9) (hx0 : 0 ≤ φ 32 0 ∧ φ 32 0 ≤ 2) (hQ : ∀ ψ : hf_F, Inv ψ → Fr [32, 33, 34, 35] φ ψ → F_Plan_addRing_31 φ v1 v3 v4 = ψ → Q none ψ x) : hw sc (d + 1) 44 0 [(0, (2, 31)), (1, (1, v1)), (3, (0, v3)), (4, (0, v4))] [] φ x Q := by
  apply sf_44_31_v
  have e0 : F_Plan_addRing_31 φ v1 v3 v4 = _ := rfl
  have f1 := iv_at (a := 32) (k := 0) (lo := 0) (u := 3) hI (by decide +kernel)
  refine sf_45_31_k1_0 (φ := φ) hI (by rw [show φ 32 0 = φ 32 0 from rfl]; constructor <;> omega) (fun z1 ψ1 hI1 hF1 hp1 hE1 => ⟨rfl, z1, rfl, ?_⟩)
  have hG1 : Fr [32, 33, 34, 35] φ ψ1 := fr_tr (fr_rf) hF1 (by decide)
  have e1 := e0.trans (bnd_e hE1)
  refine ⟨by omega, by omega, ?_⟩
  have i2 : Inv (hf_up ψ1 34 ((z1).toNat) v3) := iv_upI (s := 0) (t := 3) (lo := 0) (u := 30) (z := z1) hI1 (by decide +kernel) (by omega) (by omega) (by omega) (by omega)
  have r2 : Fr [32, 33, 34, 35] φ (hf_up ψ1 34 ((z1).toNat) v3) := fr_upa hG1 (by decide)
  refine ⟨by omega, by omega, ?_⟩
  have i3 : Inv (hf_up (hf_up ψ1 34 ((z1).toNat) v3) 35 ((z1).toNat) v4) := iv_upI (s := 0) (t := 3) (lo := 0) (u := 9) (z := z1) i2 (by decide +kernel) (by omega) (by omega) (by omega) (by omega)
  have r3 : Fr [32, 33, 34, 35] φ (hf_up (hf_up ψ1 34 ((z1).toNat) v3) 35 ((z1).toNat) v4) := fr_upa r2 (by decide)
  exact hQ (hf_up (hf_up ψ1 34 ((z1).toNat) v3) 35 ((z1).toNat) v4) i3 r3 e1
theorem sf_45_31_k1_1_v {sc : List Int} {d : Nat} {φ : hf_F} {x : Nat} {Q : Option jm_V → hf_F → Nat → Prop} {v2 : Int}
    (H : 0 ≤ (8 + (φ 32 1)) ∧ (8 + (φ 32 1)) < 40 ∧ (Q (some (0, φ 32 1)) (hf_up (hf_up φ 33 ((8 + (φ 32 1)).toNat) v2) 32 1 ((φ 32 1) + 1)) x)) :
    hw sc d 45 0 [(0, (2, 31)), (1, (0, 1)), (2, (1, v2))] [] φ x Q := by
  refine hw_ald (b := 0) (e := 0) (by decide +kernel) rfl (by decide) ?_
  refine hr_gr (w := 32) (b := 3) (e := 0) 31 rfl (by decide +kernel) ?_
  refine hw_ld (b := 1) (e := 0) (by decide +kernel) rfl ?_
  refine hr_al (b := 0) (a0 := 0) (e := 0) (n := 5) (w := φ 32 1) 32 rfl (by decide +kernel) (by decide) (by decide) (by decide) rfl ?_
  refine hw_st (L' := (jm_st1 [(0, (2, 31)), (1, (0, 1)), (2, (1, v2))] 4 (0, φ 32 1))) (b := 4) (e := 1) (by decide +kernel) rfl ?_
  refine hw_ald (b := 0) (e := 0) (by decide +kernel) (get_st1 rfl (by decide) (fun q => absurd q.1 (by decide))) (by decide) ?_
  refine hr_gr (w := 33) (b := 3) (e := 1) 31 rfl (by decide +kernel) ?_
  refine hw_ld (b := 1) (e := 0) (by decide +kernel) (get_st1 rfl (by decide) (fun q => absurd q.1 (by decide))) ?_
  refine hw_k (c := 8) (b := 1) (e := 2) (by decide +kernel) ?_
  refine hw_bin (w := 8) (a0 := 0) (b := 2) (e := 0) (by decide +kernel) rfl ?_
  refine hw_ld (b := 4) (e := 1) (by decide +kernel) get_st1e ?_
  refine hw_bin (w := 8 + (φ 32 1)) (a0 := 0) (b := 0) (e := 0) (by decide +kernel) rfl ?_
  refine hw_lld (b := 2) (e := 0) (by decide +kernel) (get_st1 rfl (by decide) (fun q => absurd q.1 (by decide))) ?_
  obtain ⟨hl1, hu1, H⟩ := H
  refine hr_asl (a0 := 0) (e := 4) (n := 40) 33 rfl (by decide +kernel) hl1 hu1 ?_
  refine hw_ald (b := 0) (e := 0) (by decide +kernel) (get_st1 rfl (by decide) (fun q => absurd q.1 (by decide))) (by decide) ?_
  refine hr_gr (w := 32) (b := 3) (e := 0) 31 rfl (by decide +kernel) ?_
  refine hw_ld (b := 1) (e := 0) (by decide +kernel) (get_st1 rfl (by decide) (fun q => absurd q.1 (by decide))) ?_
  refine hw_dup2 (a0 := 0) (e := 0) (by decide +kernel) (by decide) (by decide) ?_
  refine hr_al (b := 0) (a0 := 0) (e := 0) (n := 5) (w := φ 32 1) 32 rfl (by decide +kernel) (by decide) (by decide) (by decide) (hf_up_ne (fun q => absurd q.1 (by decide))) ?_
  refine hw_k (c := 1) (b := 0) (e := 1) (by decide +kernel) ?_
  refine hw_bin (w := (φ 32 1) + 1) (a0 := 0) (b := 0) (e := 0) (by decide +kernel) rfl ?_
  refine hr_as (a0 := 0) (e := 4) (n := 5) 32 rfl (by decide +kernel) (by decide) (by decide) ?_
  refine hw_ld (b := 4) (e := 1) (by decide +kernel) get_st1e ?_
  exact hw_ret (a0 := 0) (e := 0) (by decide +kernel) (Or.inl rfl) H
theorem sf_45_31_k1_1 {sc : List Int} {d : Nat} {φ : hf_F} {x : Nat} {Q : Option jm_V → hf_F → Nat → Prop} {v2 : Int} (hI : Inv φ) (hx0 : 0 ≤ φ 32 1 ∧ φ 32 1 ≤ 7) (hQ : ∀ (r : Int) (ψ : hf_F), Inv ψ → Fr [32, 33] φ ψ → 0 ≤ r ∧ r ≤ 7 ∧ r ≤ 7 → F_Plan_addNamed_31_k1_1 φ v2 = (r, ψ) → Q (some (0, r)) ψ x) : hw sc d 45 0 [(0, (2, 31)), (1, (0, 1)), (2, (1, v2))] [] φ x Q := by
  apply sf_45_31_k1_1_v
  have e0 : F_Plan_addNamed_31_k1_1 φ v2 = _ := rfl
  have f1 := iv_at (a := 32) (k := 1) (lo := 0) (u := 8) hI (by decide +kernel)
  refine ⟨by omega, by omega, ?_⟩
  have i2 : Inv (hf_up φ 33 ((8 + (φ 32 1)).toNat) v2) := iv_upIn hI (by decide) (by decide +kernel)
  have r2 : Fr [32, 33] φ (hf_up φ 33 ((8 + (φ 32 1)).toNat) v2) := fr_upa (fr_rf) (by decide)
  have i3 : Inv (hf_up (hf_up φ 33 ((8 + (φ 32 1)).toNat) v2) 32 1 ((φ 32 1) + 1)) := iv_up (lo := 0) (u := 8) i2 (by decide +kernel) (by omega) (by omega)
  have r3 : Fr [32, 33] φ (hf_up (hf_up φ 33 ((8 + (φ 32 1)).toNat) v2) 32 1 ((φ 32 1) + 1)) := fr_upa r2 (by decide)
  exact hQ (φ 32 1) (hf_up (hf_up φ 33 ((8 + (φ 32 1)).toNat) v2) 32 1 ((φ 32 1) + 1)) i3 r3 ⟨by omega, by omega, by omega⟩ e0
theorem sf_49_31_v {sc : List Int} {d : Nat} {φ : hf_F} {x : Nat} {Q : Option jm_V → hf_F → Nat → Prop} {v1 v3 : Int}
    (H : hw sc d 45 0 [(0, (2, 31)), (1, (0, 1)), (2, (1, v1))] [] φ x (fun r ψ1 y1 => y1 = x ∧ (∃ z1 : Int, r = some (0, z1) ∧ (0 ≤ z1 ∧ z1 < 8 ∧ (0 ≤ v3 ∧ v3 < 3 ∧ (0 ≤ z1 ∧ z1 < 8 ∧ (0 ≤ v3 ∧ v3 < 3 ∧ (hi (ψ1 34 ((v3).toNat)) ∧ ((ψ1 34 ((v3).toNat)) ≤ 0 → 0 ≤ z1 ∧ z1 < 8 ∧ (Q (some (0, z1)) (hf_up (hf_up (hf_up ψ1 36 ((z1).toNat) v3) 38 ((z1).toNat) (ψ1 34 ((v3).toNat))) 37 ((z1).toNat) 0) x)) ∧ (¬ (ψ1 34 ((v3).toNat)) ≤ 0 → 0 ≤ v3 ∧ v3 < 3 ∧ (0 ≤ v3 ∧ v3 < 3 ∧ (hi (ψ1 35 ((v3).toNat)) ∧ hi (ψ1 34 ((v3).toNat)) ∧ ¬ (ψ1 34 ((v3).toNat)) = 0 ∧ (0 ≤ z1 ∧ z1 < 8 ∧ (Q (some (0, z1)) (hf_up (hf_up (hf_up ψ1 36 ((z1).toNat) v3) 38 ((z1).toNat) (ψ1 34 ((v3).toNat))) 37 ((z1).toNat) ((ψ1 35 ((v3).toNat)).tmod (ψ1 34 ((v3).toNat)))) x))))))))))))) :
    hw sc (d + 1) 49 0 [(0, (2, 31)), (1, (1, v1)), (3, (0, v3))] [] φ x Q := by
  refine hw_ald (b := 0) (e := 0) (by decide +kernel) rfl (by decide) ?_
  refine hw_k (c := 1) (b := 0) (e := 1) (by decide +kernel) ?_
  refine hw_lld (b := 1) (e := 0) (by decide +kernel) rfl ?_
  refine hr_call (a0 := 13) (b := 45) (e := 3) (nl := 5) (As := [(0, 1), (1, v1)]) (R := []) 31 rfl (by decide +kernel) rfl rfl (Nat.le_of_ble_eq_true rfl) (Nat.le_of_ble_eq_true rfl) ?_
  refine hw_mono H ?_
  rintro r ψ1 y1 ⟨hyx, z1, hr, H⟩
  subst hyx
  subst hr
  refine ⟨hne0, ?_⟩
  show hw sc (d + 1) 49 6 [(0, (2, 31)), (1, (1, v1)), (3, (0, v3))] [(0, z1)] ψ1 y1 Q
  refine hw_st (L' := (jm_st1 [(0, (2, 31)), (1, (1, v1)), (3, (0, v3))] 4 (0, z1))) (b := 4) (e := 1) (by decide +kernel) rfl ?_
  refine hw_ald (b := 0) (e := 0) (by decide +kernel) (get_st1 rfl (by decide) (fun q => absurd q.1 (by decide))) (by decide) ?_
  refine hr_gr (w := 36) (b := 3) (e := 4) 31 rfl (by decide +kernel) ?_
  refine hw_ld (b := 4) (e := 1) (by decide +kernel) get_st1e ?_
  refine hw_ld (b := 3) (e := 0) (by decide +kernel) (get_st1 rfl (by decide) (fun q => tg0 q.2)) ?_
  obtain ⟨hl2, hu2, H⟩ := H
  refine hr_as (a0 := 0) (e := 4) (n := 8) 36 rfl (by decide +kernel) hl2 hu2 ?_
  refine hw_ald (b := 0) (e := 0) (by decide +kernel) (get_st1 rfl (by decide) (fun q => absurd q.1 (by decide))) (by decide) ?_
  refine hr_gr (w := 38) (b := 3) (e := 6) 31 rfl (by decide +kernel) ?_
  refine hw_ld (b := 4) (e := 1) (by decide +kernel) get_st1e ?_
  refine hw_ald (b := 0) (e := 0) (by decide +kernel) (get_st1 rfl (by decide) (fun q => absurd q.1 (by decide))) (by decide) ?_
  refine hr_gr (w := 34) (b := 3) (e := 2) 31 rfl (by decide +kernel) ?_
  refine hw_ld (b := 3) (e := 0) (by decide +kernel) (get_st1 rfl (by decide) (fun q => tg0 q.2)) ?_
  obtain ⟨hl3, hu3, H⟩ := H
  refine hr_al (b := 0) (a0 := 0) (e := 0) (n := 3) (w := ψ1 34 ((v3).toNat)) 34 rfl (by decide +kernel) (by decide) hl3 hu3 (hf_up_ne (fun q => absurd q.1 (by decide))) ?_
  obtain ⟨hl4, hu4, H⟩ := H
  refine hr_as (a0 := 0) (e := 4) (n := 8) 38 rfl (by decide +kernel) hl4 hu4 ?_
  refine hw_ald (b := 0) (e := 0) (by decide +kernel) (get_st1 rfl (by decide) (fun q => absurd q.1 (by decide))) (by decide) ?_
  refine hr_gr (w := 37) (b := 3) (e := 5) 31 rfl (by decide +kernel) ?_
  refine hw_ld (b := 4) (e := 1) (by decide +kernel) get_st1e ?_
  refine hw_ald (b := 0) (e := 0) (by decide +kernel) (get_st1 rfl (by decide) (fun q => absurd q.1 (by decide))) (by decide) ?_
  refine hr_gr (w := 34) (b := 3) (e := 2) 31 rfl (by decide +kernel) ?_
  refine hw_ld (b := 3) (e := 0) (by decide +kernel) (get_st1 rfl (by decide) (fun q => tg0 q.2)) ?_
  obtain ⟨hl5, hu5, H⟩ := H
  refine hr_al (b := 0) (a0 := 0) (e := 0) (n := 3) (w := ψ1 34 ((v3).toNat)) 34 rfl (by decide +kernel) (by decide) hl5 hu5 ((hf_up_ne (fun q => absurd q.1 (by decide))).trans (hf_up_ne (fun q => absurd q.1 (by decide)))) ?_
  obtain ⟨hz6, ht6, hf6⟩ := H
  refine hw_if (a0 := 0) (b := 5) (e := 60) (by decide +kernel) hz6 (fun q => ?_) (fun q => ?_)
  · have H := ht6 q
    refine hw_k (c := 0) (b := 0) (e := 1) (by decide +kernel) ?_
    obtain ⟨hl7, hu7, H⟩ := H
    refine hr_as (a0 := 0) (e := 4) (n := 8) 37 rfl (by decide +kernel) hl7 hu7 ?_
    refine hw_ld (b := 4) (e := 1) (by decide +kernel) get_st1e ?_
    exact hw_ret (a0 := 0) (e := 0) (by decide +kernel) (Or.inl rfl) H
  · have H := hf6 q
    refine hw_ald (b := 0) (e := 0) (by decide +kernel) (get_st1 rfl (by decide) (fun q => absurd q.1 (by decide))) (by decide) ?_
    refine hr_gr (w := 35) (b := 3) (e := 3) 31 rfl (by decide +kernel) ?_
    refine hw_ld (b := 3) (e := 0) (by decide +kernel) (get_st1 rfl (by decide) (fun q => tg0 q.2)) ?_
    obtain ⟨hl9, hu9, H⟩ := H
    refine hr_al (b := 0) (a0 := 0) (e := 0) (n := 3) (w := ψ1 35 ((v3).toNat)) 35 rfl (by decide +kernel) (by decide) hl9 hu9 ((hf_up_ne (fun q => absurd q.1 (by decide))).trans (hf_up_ne (fun q => absurd q.1 (by decide)))) ?_
    refine hw_ald (b := 0) (e := 0) (by decide +kernel) (get_st1 rfl (by decide) (fun q => absurd q.1 (by decide))) (by decide) ?_
    refine hr_gr (w := 34) (b := 3) (e := 2) 31 rfl (by decide +kernel) ?_
    refine hw_ld (b := 3) (e := 0) (by decide +kernel) (get_st1 rfl (by decide) (fun q => tg0 q.2)) ?_
    obtain ⟨hl10, hu10, H⟩ := H
    refine hr_al (b := 0) (a0 := 0) (e := 0) (n := 3) (w := ψ1 34 ((v3).toNat)) 34 rfl (by decide +kernel) (by decide) hl10 hu10 ((hf_up_ne (fun q => absurd q.1 (by decide))).trans (hf_up_ne (fun q => absurd q.1 (by decide)))) ?_
    obtain ⟨hz11, hy11, hn11, H⟩ := H
    refine hw_bin (w := (ψ1 35 ((v3).toNat)).tmod (ψ1 34 ((v3).toNat))) (a0 := 0) (b := 10) (e := 0) (by decide +kernel) (hb_rem hz11 hy11 hn11) ?_
    refine hw_goto (a0 := 0) (b := 0) (e := 61) (by decide +kernel) ?_
    obtain ⟨hl12, hu12, H⟩ := H
    refine hr_as (a0 := 0) (e := 4) (n := 8) 37 rfl (by decide +kernel) hl12 hu12 ?_
    refine hw_ld (b := 4) (e := 1) (by decide +kernel) get_st1e ?_
    exact hw_ret (a0 := 0) (e := 0) (by decide +kernel) (Or.inl rfl) H
theorem sf_49_31 {sc : List Int} {d : Nat} {φ : hf_F} {x : Nat} {Q : Option jm_V → hf_F → Nat → Prop} {v1 v3 : Int} (hI : Inv φ) (h3a : 0 ≤ v3) (h3b : v3 ≤ 2) (hx0 : 0 ≤ φ 32 1 ∧ φ 32 1 ≤ 7) (hQ : ∀ (r : Int) (ψ : hf_F), Inv ψ → Fr [32, 33, 36, 37, 38] φ ψ → 0 ≤ r ∧ r ≤ 7 → F_Plan_addSeat_31 φ v1 v3 = (r, ψ) → Q (some (0, r)) ψ x) : hw sc (d + 1) 49 0 [(0, (2, 31)), (1, (1, v1)), (3, (0, v3))] [] φ x Q := by
  apply sf_49_31_v
  have e0 : F_Plan_addSeat_31 φ v1 v3 = _ := rfl
  have f1 := iv_at (a := 32) (k := 1) (lo := 0) (u := 8) hI (by decide +kernel)
  refine sf_45_31_k1_1 (φ := φ) hI (by rw [show φ 32 1 = φ 32 1 from rfl]; constructor <;> omega) (fun z1 ψ1 hI1 hF1 hp1 hE1 => ⟨rfl, z1, rfl, ?_⟩)
  have hG1 : Fr [32, 33, 36, 37, 38] φ ψ1 := fr_tr (fr_rf) hF1 (by decide)
  have e1 := e0.trans (bnd_e hE1)
  refine ⟨by omega, by omega, ?_⟩
  have i2 : Inv (hf_up ψ1 36 ((z1).toNat) v3) := iv_upI (s := 0) (t := 8) (lo := 0) (u := 2) (z := z1) hI1 (by decide +kernel) (by omega) (by omega) (by omega) (by omega)
  have r2 : Fr [32, 33, 36, 37, 38] φ (hf_up ψ1 36 ((z1).toNat) v3) := fr_upa hG1 (by decide)
  refine ⟨by omega, by omega, ?_⟩
  have f3 := iv_ar (a := 34) (s := 0) (t := 3) (lo := 0) (u := 30) (z := v3) hI1 (by decide +kernel) (by omega) (by omega)
  have f4 : ψ1 34 ((v3).toNat) = φ 34 ((v3).toNat) := (fr_at hF1 34 (by decide) ((v3).toNat))
  have f5 := iv_ar (a := 34) (s := 0) (t := 3) (lo := 0) (u := 30) (z := v3) hI (by decide +kernel) (by omega) (by omega)
  refine ⟨by omega, by omega, ?_⟩
  have i6 : Inv (hf_up (hf_up ψ1 36 ((z1).toNat) v3) 38 ((z1).toNat) (ψ1 34 ((v3).toNat))) := iv_upI (s := 0) (t := 8) (lo := 0) (u := 30) (z := z1) i2 (by decide +kernel) (by omega) (by omega) (by omega) (by omega)
  have r6 : Fr [32, 33, 36, 37, 38] φ (hf_up (hf_up ψ1 36 ((z1).toNat) v3) 38 ((z1).toNat) (ψ1 34 ((v3).toNat))) := fr_upa r2 (by decide)
  refine ⟨by omega, by omega, ?_⟩
  refine ⟨by unfold hi; omega, fun q6 => ?_, fun q6 => ?_⟩
  · skip
    have e6a := e1.trans (if_pos q6)
    refine ⟨by omega, by omega, ?_⟩
    have i7 : Inv (hf_up (hf_up (hf_up ψ1 36 ((z1).toNat) v3) 38 ((z1).toNat) (ψ1 34 ((v3).toNat))) 37 ((z1).toNat) 0) := iv_upI (s := 0) (t := 8) (lo := 0) (u := 29) (z := z1) i6 (by decide +kernel) (by omega) (by omega) (by omega) (by omega)
    have r7 : Fr [32, 33, 36, 37, 38] φ (hf_up (hf_up (hf_up ψ1 36 ((z1).toNat) v3) 38 ((z1).toNat) (ψ1 34 ((v3).toNat))) 37 ((z1).toNat) 0) := fr_upa r6 (by decide)
    exact hQ z1 (hf_up (hf_up (hf_up ψ1 36 ((z1).toNat) v3) 38 ((z1).toNat) (ψ1 34 ((v3).toNat))) 37 ((z1).toNat) 0) i7 r7 ⟨by omega, by omega⟩ e6a
  · skip
    have e6b := e1.trans (if_neg q6)
    refine ⟨by omega, by omega, ?_⟩
    have f8 := iv_ar (a := 35) (s := 0) (t := 3) (lo := 0) (u := 9) (z := v3) hI1 (by decide +kernel) (by omega) (by omega)
    have f9 : ψ1 35 ((v3).toNat) = φ 35 ((v3).toNat) := (fr_at hF1 35 (by decide) ((v3).toNat))
    have f10 := iv_ar (a := 35) (s := 0) (t := 3) (lo := 0) (u := 9) (z := v3) hI (by decide +kernel) (by omega) (by omega)
    refine ⟨by omega, by omega, ?_⟩
    refine ⟨by unfold hi; omega, by unfold hi; omega, by omega, ?_⟩
    have f11 := hr_tmod (z := ψ1 35 ((v3).toNat)) (y := ψ1 34 ((v3).toNat)) (by omega) (by omega)
    refine ⟨by omega, by omega, ?_⟩
    have i12 : Inv (hf_up (hf_up (hf_up ψ1 36 ((z1).toNat) v3) 38 ((z1).toNat) (ψ1 34 ((v3).toNat))) 37 ((z1).toNat) ((ψ1 35 ((v3).toNat)).tmod (ψ1 34 ((v3).toNat)))) := iv_upI (s := 0) (t := 8) (lo := 0) (u := 29) (z := z1) i6 (by decide +kernel) (by omega) (by omega) (by omega) (by omega)
    have r12 : Fr [32, 33, 36, 37, 38] φ (hf_up (hf_up (hf_up ψ1 36 ((z1).toNat) v3) 38 ((z1).toNat) (ψ1 34 ((v3).toNat))) 37 ((z1).toNat) ((ψ1 35 ((v3).toNat)).tmod (ψ1 34 ((v3).toNat)))) := fr_upa r6 (by decide)
    exact hQ z1 (hf_up (hf_up (hf_up ψ1 36 ((z1).toNat) v3) 38 ((z1).toNat) (ψ1 34 ((v3).toNat))) 37 ((z1).toNat) ((ψ1 35 ((v3).toNat)).tmod (ψ1 34 ((v3).toNat)))) i12 r12 ⟨by omega, by omega⟩ e6b
theorem sf_66_17_110_v {sc : List Int} {d : Nat} {φ : hf_F} {x : Nat} {Q : Option jm_V → hf_F → Nat → Prop} 
    (H : Q none (hf_cp (hf_cp (hf_cp (hf_cp (hf_cp (hf_cp (hf_cp (hf_cp (hf_up (hf_up (hf_up (hf_up (hf_up (hf_up φ 17 0 (φ 110 0)) 17 1 (φ 110 1)) 17 2 (φ 110 2)) 17 3 (φ 110 3)) 17 4 (φ 110 4)) 17 5 (φ 110 5)) 111 18 8) 112 19 8) 113 20 6) 114 21 6) 115 22 36) 116 23 6) 117 24 6) 118 25 8) x) :
    hw sc d 66 0 [(0, (2, 17)), (1, (2, 110))] [] φ x Q := by
  refine hw_ald (b := 0) (e := 0) (by decide +kernel) rfl (by decide) ?_
  refine hw_ald (b := 1) (e := 0) (by decide +kernel) rfl (by decide) ?_
  refine hr_gi (w := φ 110 0) (b := 4) (e := 0) 110 rfl (by decide +kernel) rfl ?_
  refine hr_pi (b := 4) (e := 0) 17 rfl (by decide +kernel) ?_
  refine hw_ald (b := 0) (e := 0) (by decide +kernel) rfl (by decide) ?_
  refine hw_ald (b := 1) (e := 0) (by decide +kernel) rfl (by decide) ?_
  refine hr_gi (w := φ 110 1) (b := 4) (e := 1) 110 rfl (by decide +kernel) (hf_up_ne (fun q => absurd q.1 (by decide))) ?_
  refine hr_pi (b := 4) (e := 1) 17 rfl (by decide +kernel) ?_
  refine hw_ald (b := 0) (e := 0) (by decide +kernel) rfl (by decide) ?_
  refine hw_ald (b := 1) (e := 0) (by decide +kernel) rfl (by decide) ?_
  refine hr_gi (w := φ 110 2) (b := 4) (e := 2) 110 rfl (by decide +kernel) ((hf_up_ne (fun q => absurd q.1 (by decide))).trans (hf_up_ne (fun q => absurd q.1 (by decide)))) ?_
  refine hr_pi (b := 4) (e := 2) 17 rfl (by decide +kernel) ?_
  refine hw_ald (b := 0) (e := 0) (by decide +kernel) rfl (by decide) ?_
  refine hw_ald (b := 1) (e := 0) (by decide +kernel) rfl (by decide) ?_
  refine hr_gi (w := φ 110 3) (b := 4) (e := 3) 110 rfl (by decide +kernel) ((hf_up_ne (fun q => absurd q.1 (by decide))).trans ((hf_up_ne (fun q => absurd q.1 (by decide))).trans (hf_up_ne (fun q => absurd q.1 (by decide))))) ?_
  refine hr_pi (b := 4) (e := 3) 17 rfl (by decide +kernel) ?_
  refine hw_ald (b := 0) (e := 0) (by decide +kernel) rfl (by decide) ?_
  refine hw_ald (b := 1) (e := 0) (by decide +kernel) rfl (by decide) ?_
  refine hr_gi (w := φ 110 4) (b := 4) (e := 4) 110 rfl (by decide +kernel) ((hf_up_ne (fun q => absurd q.1 (by decide))).trans ((hf_up_ne (fun q => absurd q.1 (by decide))).trans ((hf_up_ne (fun q => absurd q.1 (by decide))).trans (hf_up_ne (fun q => absurd q.1 (by decide)))))) ?_
  refine hr_pi (b := 4) (e := 4) 17 rfl (by decide +kernel) ?_
  refine hw_ald (b := 0) (e := 0) (by decide +kernel) rfl (by decide) ?_
  refine hw_ald (b := 1) (e := 0) (by decide +kernel) rfl (by decide) ?_
  refine hr_gi (w := φ 110 5) (b := 4) (e := 5) 110 rfl (by decide +kernel) ((hf_up_ne (fun q => absurd q.1 (by decide))).trans ((hf_up_ne (fun q => absurd q.1 (by decide))).trans ((hf_up_ne (fun q => absurd q.1 (by decide))).trans ((hf_up_ne (fun q => absurd q.1 (by decide))).trans (hf_up_ne (fun q => absurd q.1 (by decide))))))) ?_
  refine hr_pi (b := 4) (e := 5) 17 rfl (by decide +kernel) ?_
  refine hw_ald (b := 1) (e := 0) (by decide +kernel) rfl (by decide) ?_
  refine hr_gr (w := 111) (b := 4) (e := 6) 110 rfl (by decide +kernel) ?_
  refine hw_k (c := 0) (b := 0) (e := 1) (by decide +kernel) ?_
  refine hw_ald (b := 0) (e := 0) (by decide +kernel) rfl (by decide) ?_
  refine hr_gr (w := 18) (b := 4) (e := 6) 17 rfl (by decide +kernel) ?_
  refine hw_k (c := 0) (b := 0) (e := 1) (by decide +kernel) ?_
  refine hw_k (c := 8) (b := 1) (e := 2) (by decide +kernel) ?_
  refine hr_cp (a0 := 0) (b0 := 0) (e := 0) 111 18 8 rfl rfl rfl (by decide +kernel) (Nat.le_of_ble_eq_true rfl) ?_
  refine hw_ald (b := 1) (e := 0) (by decide +kernel) rfl (by decide) ?_
  refine hr_gr (w := 112) (b := 4) (e := 7) 110 rfl (by decide +kernel) ?_
  refine hw_k (c := 0) (b := 0) (e := 1) (by decide +kernel) ?_
  refine hw_ald (b := 0) (e := 0) (by decide +kernel) rfl (by decide) ?_
  refine hr_gr (w := 19) (b := 4) (e := 7) 17 rfl (by decide +kernel) ?_
  refine hw_k (c := 0) (b := 0) (e := 1) (by decide +kernel) ?_
  refine hw_k (c := 8) (b := 1) (e := 2) (by decide +kernel) ?_
  refine hr_cp (a0 := 0) (b0 := 0) (e := 0) 112 19 8 rfl rfl rfl (by decide +kernel) (Nat.le_of_ble_eq_true rfl) ?_
  refine hw_ald (b := 1) (e := 0) (by decide +kernel) rfl (by decide) ?_
  refine hr_gr (w := 113) (b := 4) (e := 8) 110 rfl (by decide +kernel) ?_
  refine hw_k (c := 0) (b := 0) (e := 1) (by decide +kernel) ?_
  refine hw_ald (b := 0) (e := 0) (by decide +kernel) rfl (by decide) ?_
  refine hr_gr (w := 20) (b := 4) (e := 8) 17 rfl (by decide +kernel) ?_
  refine hw_k (c := 0) (b := 0) (e := 1) (by decide +kernel) ?_
  refine hw_k (c := 6) (b := 1) (e := 2) (by decide +kernel) ?_
  refine hr_cp (a0 := 0) (b0 := 0) (e := 0) 113 20 6 rfl rfl rfl (by decide +kernel) (Nat.le_of_ble_eq_true rfl) ?_
  refine hw_ald (b := 1) (e := 0) (by decide +kernel) rfl (by decide) ?_
  refine hr_gr (w := 114) (b := 4) (e := 9) 110 rfl (by decide +kernel) ?_
  refine hw_k (c := 0) (b := 0) (e := 1) (by decide +kernel) ?_
  refine hw_ald (b := 0) (e := 0) (by decide +kernel) rfl (by decide) ?_
  refine hr_gr (w := 21) (b := 4) (e := 9) 17 rfl (by decide +kernel) ?_
  refine hw_k (c := 0) (b := 0) (e := 1) (by decide +kernel) ?_
  refine hw_k (c := 6) (b := 1) (e := 2) (by decide +kernel) ?_
  refine hr_cp (a0 := 0) (b0 := 0) (e := 0) 114 21 6 rfl rfl rfl (by decide +kernel) (Nat.le_of_ble_eq_true rfl) ?_
  refine hw_ald (b := 1) (e := 0) (by decide +kernel) rfl (by decide) ?_
  refine hr_gr (w := 115) (b := 4) (e := 10) 110 rfl (by decide +kernel) ?_
  refine hw_k (c := 0) (b := 0) (e := 1) (by decide +kernel) ?_
  refine hw_ald (b := 0) (e := 0) (by decide +kernel) rfl (by decide) ?_
  refine hr_gr (w := 22) (b := 4) (e := 10) 17 rfl (by decide +kernel) ?_
  refine hw_k (c := 0) (b := 0) (e := 1) (by decide +kernel) ?_
  refine hw_k (c := 36) (b := 1) (e := 2) (by decide +kernel) ?_
  refine hr_cp (a0 := 0) (b0 := 0) (e := 0) 115 22 36 rfl rfl rfl (by decide +kernel) (Nat.le_of_ble_eq_true rfl) ?_
  refine hw_ald (b := 1) (e := 0) (by decide +kernel) rfl (by decide) ?_
  refine hr_gr (w := 116) (b := 4) (e := 11) 110 rfl (by decide +kernel) ?_
  refine hw_k (c := 0) (b := 0) (e := 1) (by decide +kernel) ?_
  refine hw_ald (b := 0) (e := 0) (by decide +kernel) rfl (by decide) ?_
  refine hr_gr (w := 23) (b := 4) (e := 11) 17 rfl (by decide +kernel) ?_
  refine hw_k (c := 0) (b := 0) (e := 1) (by decide +kernel) ?_
  refine hw_k (c := 6) (b := 1) (e := 2) (by decide +kernel) ?_
  refine hr_cp (a0 := 0) (b0 := 0) (e := 0) 116 23 6 rfl rfl rfl (by decide +kernel) (Nat.le_of_ble_eq_true rfl) ?_
  refine hw_ald (b := 1) (e := 0) (by decide +kernel) rfl (by decide) ?_
  refine hr_gr (w := 117) (b := 4) (e := 12) 110 rfl (by decide +kernel) ?_
  refine hw_k (c := 0) (b := 0) (e := 1) (by decide +kernel) ?_
  refine hw_ald (b := 0) (e := 0) (by decide +kernel) rfl (by decide) ?_
  refine hr_gr (w := 24) (b := 4) (e := 12) 17 rfl (by decide +kernel) ?_
  refine hw_k (c := 0) (b := 0) (e := 1) (by decide +kernel) ?_
  refine hw_k (c := 6) (b := 1) (e := 2) (by decide +kernel) ?_
  refine hr_cp (a0 := 0) (b0 := 0) (e := 0) 117 24 6 rfl rfl rfl (by decide +kernel) (Nat.le_of_ble_eq_true rfl) ?_
  refine hw_ald (b := 1) (e := 0) (by decide +kernel) rfl (by decide) ?_
  refine hr_gr (w := 118) (b := 4) (e := 13) 110 rfl (by decide +kernel) ?_
  refine hw_k (c := 0) (b := 0) (e := 1) (by decide +kernel) ?_
  refine hw_ald (b := 0) (e := 0) (by decide +kernel) rfl (by decide) ?_
  refine hr_gr (w := 25) (b := 4) (e := 13) 17 rfl (by decide +kernel) ?_
  refine hw_k (c := 0) (b := 0) (e := 1) (by decide +kernel) ?_
  refine hw_k (c := 8) (b := 1) (e := 2) (by decide +kernel) ?_
  refine hr_cp (a0 := 0) (b0 := 0) (e := 0) 118 25 8 rfl rfl rfl (by decide +kernel) (Nat.le_of_ble_eq_true rfl) ?_
  exact hw_vret (a0 := 0) (e := 0) (by decide +kernel) H
theorem sf_66_17_110 {sc : List Int} {d : Nat} {φ : hf_F} {x : Nat} {Q : Option jm_V → hf_F → Nat → Prop}  (hI : Inv φ)  (hQ : ∀ ψ : hf_F, Inv ψ → Fr [18, 19, 20, 21, 22, 23, 24, 25, 18000, 18001, 18002, 18003, 18004, 18005] φ ψ → F_State_copyFrom_17_110 φ = ψ → Q none ψ x) : hw sc d 66 0 [(0, (2, 17)), (1, (2, 110))] [] φ x Q := by
  apply sf_66_17_110_v
  have e0 : F_State_copyFrom_17_110 φ = _ := rfl
  have i1 : Inv (hf_up φ 17 0 (φ 110 0)) := iv_upn hI (by decide) (by decide) (by decide +kernel)
  have r1 : Fr [18, 19, 20, 21, 22, 23, 24, 25, 18000, 18001, 18002, 18003, 18004, 18005] φ (hf_up φ 17 0 (φ 110 0)) := fr_up (fr_rf) (by decide)
  have f2 := iv_at (a := 110) (k := 1) (lo := (-1 : Int)) (u := 7) hI (by decide +kernel)
  have i3 : Inv (hf_up (hf_up φ 17 0 (φ 110 0)) 17 1 (φ 110 1)) := iv_up (lo := (-1 : Int)) (u := 7) i1 (by decide +kernel) (by omega) (by omega)
  have r3 : Fr [18, 19, 20, 21, 22, 23, 24, 25, 18000, 18001, 18002, 18003, 18004, 18005] φ (hf_up (hf_up φ 17 0 (φ 110 0)) 17 1 (φ 110 1)) := fr_up r1 (by decide)
  have f4 := iv_at (a := 110) (k := 2) (lo := (-1 : Int)) (u := 5) hI (by decide +kernel)
  have i5 : Inv (hf_up (hf_up (hf_up φ 17 0 (φ 110 0)) 17 1 (φ 110 1)) 17 2 (φ 110 2)) := iv_up (lo := (-1 : Int)) (u := 5) i3 (by decide +kernel) (by omega) (by omega)
  have r5 : Fr [18, 19, 20, 21, 22, 23, 24, 25, 18000, 18001, 18002, 18003, 18004, 18005] φ (hf_up (hf_up (hf_up φ 17 0 (φ 110 0)) 17 1 (φ 110 1)) 17 2 (φ 110 2)) := fr_up r3 (by decide)
  have f6 := iv_at (a := 110) (k := 3) (lo := (-2147483648 : Int)) (u := 2147483647) hI (by decide +kernel)
  have i7 : Inv (hf_up (hf_up (hf_up (hf_up φ 17 0 (φ 110 0)) 17 1 (φ 110 1)) 17 2 (φ 110 2)) 17 3 (φ 110 3)) := iv_up (lo := (-2147483648 : Int)) (u := 2147483647) i5 (by decide +kernel) (by omega) (by omega)
  have r7 : Fr [18, 19, 20, 21, 22, 23, 24, 25, 18000, 18001, 18002, 18003, 18004, 18005] φ (hf_up (hf_up (hf_up (hf_up φ 17 0 (φ 110 0)) 17 1 (φ 110 1)) 17 2 (φ 110 2)) 17 3 (φ 110 3)) := fr_up r5 (by decide)
  have i8 : Inv (hf_up (hf_up (hf_up (hf_up (hf_up φ 17 0 (φ 110 0)) 17 1 (φ 110 1)) 17 2 (φ 110 2)) 17 3 (φ 110 3)) 17 4 (φ 110 4)) := iv_upn i7 (by decide) (by decide) (by decide +kernel)
  have r8 : Fr [18, 19, 20, 21, 22, 23, 24, 25, 18000, 18001, 18002, 18003, 18004, 18005] φ (hf_up (hf_up (hf_up (hf_up (hf_up φ 17 0 (φ 110 0)) 17 1 (φ 110 1)) 17 2 (φ 110 2)) 17 3 (φ 110 3)) 17 4 (φ 110 4)) := fr_up r7 (by decide)
  have i9 : Inv (hf_up (hf_up (hf_up (hf_up (hf_up (hf_up φ 17 0 (φ 110 0)) 17 1 (φ 110 1)) 17 2 (φ 110 2)) 17 3 (φ 110 3)) 17 4 (φ 110 4)) 17 5 (φ 110 5)) := iv_upn i8 (by decide) (by decide) (by decide +kernel)
  have r9 : Fr [18, 19, 20, 21, 22, 23, 24, 25, 18000, 18001, 18002, 18003, 18004, 18005] φ (hf_up (hf_up (hf_up (hf_up (hf_up (hf_up φ 17 0 (φ 110 0)) 17 1 (φ 110 1)) 17 2 (φ 110 2)) 17 3 (φ 110 3)) 17 4 (φ 110 4)) 17 5 (φ 110 5)) := fr_up r8 (by decide)
  have i10 : Inv (hf_cp (hf_up (hf_up (hf_up (hf_up (hf_up (hf_up φ 17 0 (φ 110 0)) 17 1 (φ 110 1)) 17 2 (φ 110 2)) 17 3 (φ 110 3)) 17 4 (φ 110 4)) 17 5 (φ 110 5)) 111 18 8) := iv_cp i9 (by decide) (by decide +kernel)
  have r10 : Fr [18, 19, 20, 21, 22, 23, 24, 25, 18000, 18001, 18002, 18003, 18004, 18005] φ (hf_cp (hf_up (hf_up (hf_up (hf_up (hf_up (hf_up φ 17 0 (φ 110 0)) 17 1 (φ 110 1)) 17 2 (φ 110 2)) 17 3 (φ 110 3)) 17 4 (φ 110 4)) 17 5 (φ 110 5)) 111 18 8) := fr_cp r9 (by decide)
  have i11 : Inv (hf_cp (hf_cp (hf_up (hf_up (hf_up (hf_up (hf_up (hf_up φ 17 0 (φ 110 0)) 17 1 (φ 110 1)) 17 2 (φ 110 2)) 17 3 (φ 110 3)) 17 4 (φ 110 4)) 17 5 (φ 110 5)) 111 18 8) 112 19 8) := iv_cp i10 (by decide) (by decide +kernel)
  have r11 : Fr [18, 19, 20, 21, 22, 23, 24, 25, 18000, 18001, 18002, 18003, 18004, 18005] φ (hf_cp (hf_cp (hf_up (hf_up (hf_up (hf_up (hf_up (hf_up φ 17 0 (φ 110 0)) 17 1 (φ 110 1)) 17 2 (φ 110 2)) 17 3 (φ 110 3)) 17 4 (φ 110 4)) 17 5 (φ 110 5)) 111 18 8) 112 19 8) := fr_cp r10 (by decide)
  have i12 : Inv (hf_cp (hf_cp (hf_cp (hf_up (hf_up (hf_up (hf_up (hf_up (hf_up φ 17 0 (φ 110 0)) 17 1 (φ 110 1)) 17 2 (φ 110 2)) 17 3 (φ 110 3)) 17 4 (φ 110 4)) 17 5 (φ 110 5)) 111 18 8) 112 19 8) 113 20 6) := iv_cp i11 (by decide) (by decide +kernel)
  have r12 : Fr [18, 19, 20, 21, 22, 23, 24, 25, 18000, 18001, 18002, 18003, 18004, 18005] φ (hf_cp (hf_cp (hf_cp (hf_up (hf_up (hf_up (hf_up (hf_up (hf_up φ 17 0 (φ 110 0)) 17 1 (φ 110 1)) 17 2 (φ 110 2)) 17 3 (φ 110 3)) 17 4 (φ 110 4)) 17 5 (φ 110 5)) 111 18 8) 112 19 8) 113 20 6) := fr_cp r11 (by decide)
  have i13 : Inv (hf_cp (hf_cp (hf_cp (hf_cp (hf_up (hf_up (hf_up (hf_up (hf_up (hf_up φ 17 0 (φ 110 0)) 17 1 (φ 110 1)) 17 2 (φ 110 2)) 17 3 (φ 110 3)) 17 4 (φ 110 4)) 17 5 (φ 110 5)) 111 18 8) 112 19 8) 113 20 6) 114 21 6) := iv_cp i12 (by decide) (by decide +kernel)
  have r13 : Fr [18, 19, 20, 21, 22, 23, 24, 25, 18000, 18001, 18002, 18003, 18004, 18005] φ (hf_cp (hf_cp (hf_cp (hf_cp (hf_up (hf_up (hf_up (hf_up (hf_up (hf_up φ 17 0 (φ 110 0)) 17 1 (φ 110 1)) 17 2 (φ 110 2)) 17 3 (φ 110 3)) 17 4 (φ 110 4)) 17 5 (φ 110 5)) 111 18 8) 112 19 8) 113 20 6) 114 21 6) := fr_cp r12 (by decide)
  have i14 : Inv (hf_cp (hf_cp (hf_cp (hf_cp (hf_cp (hf_up (hf_up (hf_up (hf_up (hf_up (hf_up φ 17 0 (φ 110 0)) 17 1 (φ 110 1)) 17 2 (φ 110 2)) 17 3 (φ 110 3)) 17 4 (φ 110 4)) 17 5 (φ 110 5)) 111 18 8) 112 19 8) 113 20 6) 114 21 6) 115 22 36) := iv_cp i13 (by decide) (by decide +kernel)
  have r14 : Fr [18, 19, 20, 21, 22, 23, 24, 25, 18000, 18001, 18002, 18003, 18004, 18005] φ (hf_cp (hf_cp (hf_cp (hf_cp (hf_cp (hf_up (hf_up (hf_up (hf_up (hf_up (hf_up φ 17 0 (φ 110 0)) 17 1 (φ 110 1)) 17 2 (φ 110 2)) 17 3 (φ 110 3)) 17 4 (φ 110 4)) 17 5 (φ 110 5)) 111 18 8) 112 19 8) 113 20 6) 114 21 6) 115 22 36) := fr_cp r13 (by decide)
  have i15 : Inv (hf_cp (hf_cp (hf_cp (hf_cp (hf_cp (hf_cp (hf_up (hf_up (hf_up (hf_up (hf_up (hf_up φ 17 0 (φ 110 0)) 17 1 (φ 110 1)) 17 2 (φ 110 2)) 17 3 (φ 110 3)) 17 4 (φ 110 4)) 17 5 (φ 110 5)) 111 18 8) 112 19 8) 113 20 6) 114 21 6) 115 22 36) 116 23 6) := iv_cp i14 (by decide) (by decide +kernel)
  have r15 : Fr [18, 19, 20, 21, 22, 23, 24, 25, 18000, 18001, 18002, 18003, 18004, 18005] φ (hf_cp (hf_cp (hf_cp (hf_cp (hf_cp (hf_cp (hf_up (hf_up (hf_up (hf_up (hf_up (hf_up φ 17 0 (φ 110 0)) 17 1 (φ 110 1)) 17 2 (φ 110 2)) 17 3 (φ 110 3)) 17 4 (φ 110 4)) 17 5 (φ 110 5)) 111 18 8) 112 19 8) 113 20 6) 114 21 6) 115 22 36) 116 23 6) := fr_cp r14 (by decide)
  have i16 : Inv (hf_cp (hf_cp (hf_cp (hf_cp (hf_cp (hf_cp (hf_cp (hf_up (hf_up (hf_up (hf_up (hf_up (hf_up φ 17 0 (φ 110 0)) 17 1 (φ 110 1)) 17 2 (φ 110 2)) 17 3 (φ 110 3)) 17 4 (φ 110 4)) 17 5 (φ 110 5)) 111 18 8) 112 19 8) 113 20 6) 114 21 6) 115 22 36) 116 23 6) 117 24 6) := iv_cp i15 (by decide) (by decide +kernel)
  have r16 : Fr [18, 19, 20, 21, 22, 23, 24, 25, 18000, 18001, 18002, 18003, 18004, 18005] φ (hf_cp (hf_cp (hf_cp (hf_cp (hf_cp (hf_cp (hf_cp (hf_up (hf_up (hf_up (hf_up (hf_up (hf_up φ 17 0 (φ 110 0)) 17 1 (φ 110 1)) 17 2 (φ 110 2)) 17 3 (φ 110 3)) 17 4 (φ 110 4)) 17 5 (φ 110 5)) 111 18 8) 112 19 8) 113 20 6) 114 21 6) 115 22 36) 116 23 6) 117 24 6) := fr_cp r15 (by decide)
  have i17 : Inv (hf_cp (hf_cp (hf_cp (hf_cp (hf_cp (hf_cp (hf_cp (hf_cp (hf_up (hf_up (hf_up (hf_up (hf_up (hf_up φ 17 0 (φ 110 0)) 17 1 (φ 110 1)) 17 2 (φ 110 2)) 17 3 (φ 110 3)) 17 4 (φ 110 4)) 17 5 (φ 110 5)) 111 18 8) 112 19 8) 113 20 6) 114 21 6) 115 22 36) 116 23 6) 117 24 6) 118 25 8) := iv_cp i16 (by decide) (by decide +kernel)
  have r17 : Fr [18, 19, 20, 21, 22, 23, 24, 25, 18000, 18001, 18002, 18003, 18004, 18005] φ (hf_cp (hf_cp (hf_cp (hf_cp (hf_cp (hf_cp (hf_cp (hf_cp (hf_up (hf_up (hf_up (hf_up (hf_up (hf_up φ 17 0 (φ 110 0)) 17 1 (φ 110 1)) 17 2 (φ 110 2)) 17 3 (φ 110 3)) 17 4 (φ 110 4)) 17 5 (φ 110 5)) 111 18 8) 112 19 8) 113 20 6) 114 21 6) 115 22 36) 116 23 6) 117 24 6) 118 25 8) := fr_cp r16 (by decide)
  exact hQ (hf_cp (hf_cp (hf_cp (hf_cp (hf_cp (hf_cp (hf_cp (hf_cp (hf_up (hf_up (hf_up (hf_up (hf_up (hf_up φ 17 0 (φ 110 0)) 17 1 (φ 110 1)) 17 2 (φ 110 2)) 17 3 (φ 110 3)) 17 4 (φ 110 4)) 17 5 (φ 110 5)) 111 18 8) 112 19 8) 113 20 6) 114 21 6) 115 22 36) 116 23 6) 117 24 6) 118 25 8) i17 r17 e0
theorem sf_66_17_119_v {sc : List Int} {d : Nat} {φ : hf_F} {x : Nat} {Q : Option jm_V → hf_F → Nat → Prop} 
    (H : Q none (hf_cp (hf_cp (hf_cp (hf_cp (hf_cp (hf_cp (hf_cp (hf_cp (hf_up (hf_up (hf_up (hf_up (hf_up (hf_up φ 17 0 (φ 119 0)) 17 1 (φ 119 1)) 17 2 (φ 119 2)) 17 3 (φ 119 3)) 17 4 (φ 119 4)) 17 5 (φ 119 5)) 120 18 8) 121 19 8) 122 20 6) 123 21 6) 124 22 36) 125 23 6) 126 24 6) 127 25 8) x) :
    hw sc d 66 0 [(0, (2, 17)), (1, (2, 119))] [] φ x Q := by
  refine hw_ald (b := 0) (e := 0) (by decide +kernel) rfl (by decide) ?_
  refine hw_ald (b := 1) (e := 0) (by decide +kernel) rfl (by decide) ?_
  refine hr_gi (w := φ 119 0) (b := 4) (e := 0) 119 rfl (by decide +kernel) rfl ?_
  refine hr_pi (b := 4) (e := 0) 17 rfl (by decide +kernel) ?_
  refine hw_ald (b := 0) (e := 0) (by decide +kernel) rfl (by decide) ?_
  refine hw_ald (b := 1) (e := 0) (by decide +kernel) rfl (by decide) ?_
  refine hr_gi (w := φ 119 1) (b := 4) (e := 1) 119 rfl (by decide +kernel) (hf_up_ne (fun q => absurd q.1 (by decide))) ?_
  refine hr_pi (b := 4) (e := 1) 17 rfl (by decide +kernel) ?_
  refine hw_ald (b := 0) (e := 0) (by decide +kernel) rfl (by decide) ?_
  refine hw_ald (b := 1) (e := 0) (by decide +kernel) rfl (by decide) ?_
  refine hr_gi (w := φ 119 2) (b := 4) (e := 2) 119 rfl (by decide +kernel) ((hf_up_ne (fun q => absurd q.1 (by decide))).trans (hf_up_ne (fun q => absurd q.1 (by decide)))) ?_
  refine hr_pi (b := 4) (e := 2) 17 rfl (by decide +kernel) ?_
  refine hw_ald (b := 0) (e := 0) (by decide +kernel) rfl (by decide) ?_
  refine hw_ald (b := 1) (e := 0) (by decide +kernel) rfl (by decide) ?_
  refine hr_gi (w := φ 119 3) (b := 4) (e := 3) 119 rfl (by decide +kernel) ((hf_up_ne (fun q => absurd q.1 (by decide))).trans ((hf_up_ne (fun q => absurd q.1 (by decide))).trans (hf_up_ne (fun q => absurd q.1 (by decide))))) ?_
  refine hr_pi (b := 4) (e := 3) 17 rfl (by decide +kernel) ?_
  refine hw_ald (b := 0) (e := 0) (by decide +kernel) rfl (by decide) ?_
  refine hw_ald (b := 1) (e := 0) (by decide +kernel) rfl (by decide) ?_
  refine hr_gi (w := φ 119 4) (b := 4) (e := 4) 119 rfl (by decide +kernel) ((hf_up_ne (fun q => absurd q.1 (by decide))).trans ((hf_up_ne (fun q => absurd q.1 (by decide))).trans ((hf_up_ne (fun q => absurd q.1 (by decide))).trans (hf_up_ne (fun q => absurd q.1 (by decide)))))) ?_
  refine hr_pi (b := 4) (e := 4) 17 rfl (by decide +kernel) ?_
  refine hw_ald (b := 0) (e := 0) (by decide +kernel) rfl (by decide) ?_
  refine hw_ald (b := 1) (e := 0) (by decide +kernel) rfl (by decide) ?_
  refine hr_gi (w := φ 119 5) (b := 4) (e := 5) 119 rfl (by decide +kernel) ((hf_up_ne (fun q => absurd q.1 (by decide))).trans ((hf_up_ne (fun q => absurd q.1 (by decide))).trans ((hf_up_ne (fun q => absurd q.1 (by decide))).trans ((hf_up_ne (fun q => absurd q.1 (by decide))).trans (hf_up_ne (fun q => absurd q.1 (by decide))))))) ?_
  refine hr_pi (b := 4) (e := 5) 17 rfl (by decide +kernel) ?_
  refine hw_ald (b := 1) (e := 0) (by decide +kernel) rfl (by decide) ?_
  refine hr_gr (w := 120) (b := 4) (e := 6) 119 rfl (by decide +kernel) ?_
  refine hw_k (c := 0) (b := 0) (e := 1) (by decide +kernel) ?_
  refine hw_ald (b := 0) (e := 0) (by decide +kernel) rfl (by decide) ?_
  refine hr_gr (w := 18) (b := 4) (e := 6) 17 rfl (by decide +kernel) ?_
  refine hw_k (c := 0) (b := 0) (e := 1) (by decide +kernel) ?_
  refine hw_k (c := 8) (b := 1) (e := 2) (by decide +kernel) ?_
  refine hr_cp (a0 := 0) (b0 := 0) (e := 0) 120 18 8 rfl rfl rfl (by decide +kernel) (Nat.le_of_ble_eq_true rfl) ?_
  refine hw_ald (b := 1) (e := 0) (by decide +kernel) rfl (by decide) ?_
  refine hr_gr (w := 121) (b := 4) (e := 7) 119 rfl (by decide +kernel) ?_
  refine hw_k (c := 0) (b := 0) (e := 1) (by decide +kernel) ?_
  refine hw_ald (b := 0) (e := 0) (by decide +kernel) rfl (by decide) ?_
  refine hr_gr (w := 19) (b := 4) (e := 7) 17 rfl (by decide +kernel) ?_
  refine hw_k (c := 0) (b := 0) (e := 1) (by decide +kernel) ?_
  refine hw_k (c := 8) (b := 1) (e := 2) (by decide +kernel) ?_
  refine hr_cp (a0 := 0) (b0 := 0) (e := 0) 121 19 8 rfl rfl rfl (by decide +kernel) (Nat.le_of_ble_eq_true rfl) ?_
  refine hw_ald (b := 1) (e := 0) (by decide +kernel) rfl (by decide) ?_
  refine hr_gr (w := 122) (b := 4) (e := 8) 119 rfl (by decide +kernel) ?_
  refine hw_k (c := 0) (b := 0) (e := 1) (by decide +kernel) ?_
  refine hw_ald (b := 0) (e := 0) (by decide +kernel) rfl (by decide) ?_
  refine hr_gr (w := 20) (b := 4) (e := 8) 17 rfl (by decide +kernel) ?_
  refine hw_k (c := 0) (b := 0) (e := 1) (by decide +kernel) ?_
  refine hw_k (c := 6) (b := 1) (e := 2) (by decide +kernel) ?_
  refine hr_cp (a0 := 0) (b0 := 0) (e := 0) 122 20 6 rfl rfl rfl (by decide +kernel) (Nat.le_of_ble_eq_true rfl) ?_
  refine hw_ald (b := 1) (e := 0) (by decide +kernel) rfl (by decide) ?_
  refine hr_gr (w := 123) (b := 4) (e := 9) 119 rfl (by decide +kernel) ?_
  refine hw_k (c := 0) (b := 0) (e := 1) (by decide +kernel) ?_
  refine hw_ald (b := 0) (e := 0) (by decide +kernel) rfl (by decide) ?_
  refine hr_gr (w := 21) (b := 4) (e := 9) 17 rfl (by decide +kernel) ?_
  refine hw_k (c := 0) (b := 0) (e := 1) (by decide +kernel) ?_
  refine hw_k (c := 6) (b := 1) (e := 2) (by decide +kernel) ?_
  refine hr_cp (a0 := 0) (b0 := 0) (e := 0) 123 21 6 rfl rfl rfl (by decide +kernel) (Nat.le_of_ble_eq_true rfl) ?_
  refine hw_ald (b := 1) (e := 0) (by decide +kernel) rfl (by decide) ?_
  refine hr_gr (w := 124) (b := 4) (e := 10) 119 rfl (by decide +kernel) ?_
  refine hw_k (c := 0) (b := 0) (e := 1) (by decide +kernel) ?_
  refine hw_ald (b := 0) (e := 0) (by decide +kernel) rfl (by decide) ?_
  refine hr_gr (w := 22) (b := 4) (e := 10) 17 rfl (by decide +kernel) ?_
  refine hw_k (c := 0) (b := 0) (e := 1) (by decide +kernel) ?_
  refine hw_k (c := 36) (b := 1) (e := 2) (by decide +kernel) ?_
  refine hr_cp (a0 := 0) (b0 := 0) (e := 0) 124 22 36 rfl rfl rfl (by decide +kernel) (Nat.le_of_ble_eq_true rfl) ?_
  refine hw_ald (b := 1) (e := 0) (by decide +kernel) rfl (by decide) ?_
  refine hr_gr (w := 125) (b := 4) (e := 11) 119 rfl (by decide +kernel) ?_
  refine hw_k (c := 0) (b := 0) (e := 1) (by decide +kernel) ?_
  refine hw_ald (b := 0) (e := 0) (by decide +kernel) rfl (by decide) ?_
  refine hr_gr (w := 23) (b := 4) (e := 11) 17 rfl (by decide +kernel) ?_
  refine hw_k (c := 0) (b := 0) (e := 1) (by decide +kernel) ?_
  refine hw_k (c := 6) (b := 1) (e := 2) (by decide +kernel) ?_
  refine hr_cp (a0 := 0) (b0 := 0) (e := 0) 125 23 6 rfl rfl rfl (by decide +kernel) (Nat.le_of_ble_eq_true rfl) ?_
  refine hw_ald (b := 1) (e := 0) (by decide +kernel) rfl (by decide) ?_
  refine hr_gr (w := 126) (b := 4) (e := 12) 119 rfl (by decide +kernel) ?_
  refine hw_k (c := 0) (b := 0) (e := 1) (by decide +kernel) ?_
  refine hw_ald (b := 0) (e := 0) (by decide +kernel) rfl (by decide) ?_
  refine hr_gr (w := 24) (b := 4) (e := 12) 17 rfl (by decide +kernel) ?_
  refine hw_k (c := 0) (b := 0) (e := 1) (by decide +kernel) ?_
  refine hw_k (c := 6) (b := 1) (e := 2) (by decide +kernel) ?_
  refine hr_cp (a0 := 0) (b0 := 0) (e := 0) 126 24 6 rfl rfl rfl (by decide +kernel) (Nat.le_of_ble_eq_true rfl) ?_
  refine hw_ald (b := 1) (e := 0) (by decide +kernel) rfl (by decide) ?_
  refine hr_gr (w := 127) (b := 4) (e := 13) 119 rfl (by decide +kernel) ?_
  refine hw_k (c := 0) (b := 0) (e := 1) (by decide +kernel) ?_
  refine hw_ald (b := 0) (e := 0) (by decide +kernel) rfl (by decide) ?_
  refine hr_gr (w := 25) (b := 4) (e := 13) 17 rfl (by decide +kernel) ?_
  refine hw_k (c := 0) (b := 0) (e := 1) (by decide +kernel) ?_
  refine hw_k (c := 8) (b := 1) (e := 2) (by decide +kernel) ?_
  refine hr_cp (a0 := 0) (b0 := 0) (e := 0) 127 25 8 rfl rfl rfl (by decide +kernel) (Nat.le_of_ble_eq_true rfl) ?_
  exact hw_vret (a0 := 0) (e := 0) (by decide +kernel) H
theorem sf_66_17_119 {sc : List Int} {d : Nat} {φ : hf_F} {x : Nat} {Q : Option jm_V → hf_F → Nat → Prop}  (hI : Inv φ)  (hQ : ∀ ψ : hf_F, Inv ψ → Fr [18, 19, 20, 21, 22, 23, 24, 25, 18000, 18001, 18002, 18003, 18004, 18005] φ ψ → F_State_copyFrom_17_119 φ = ψ → Q none ψ x) : hw sc d 66 0 [(0, (2, 17)), (1, (2, 119))] [] φ x Q := by
  apply sf_66_17_119_v
  have e0 : F_State_copyFrom_17_119 φ = _ := rfl
  have i1 : Inv (hf_up φ 17 0 (φ 119 0)) := iv_upn hI (by decide) (by decide) (by decide +kernel)
  have r1 : Fr [18, 19, 20, 21, 22, 23, 24, 25, 18000, 18001, 18002, 18003, 18004, 18005] φ (hf_up φ 17 0 (φ 119 0)) := fr_up (fr_rf) (by decide)
  have f2 := iv_at (a := 119) (k := 1) (lo := (-1 : Int)) (u := 7) hI (by decide +kernel)
  have i3 : Inv (hf_up (hf_up φ 17 0 (φ 119 0)) 17 1 (φ 119 1)) := iv_up (lo := (-1 : Int)) (u := 7) i1 (by decide +kernel) (by omega) (by omega)
  have r3 : Fr [18, 19, 20, 21, 22, 23, 24, 25, 18000, 18001, 18002, 18003, 18004, 18005] φ (hf_up (hf_up φ 17 0 (φ 119 0)) 17 1 (φ 119 1)) := fr_up r1 (by decide)
  have f4 := iv_at (a := 119) (k := 2) (lo := (-1 : Int)) (u := 5) hI (by decide +kernel)
  have i5 : Inv (hf_up (hf_up (hf_up φ 17 0 (φ 119 0)) 17 1 (φ 119 1)) 17 2 (φ 119 2)) := iv_up (lo := (-1 : Int)) (u := 5) i3 (by decide +kernel) (by omega) (by omega)
  have r5 : Fr [18, 19, 20, 21, 22, 23, 24, 25, 18000, 18001, 18002, 18003, 18004, 18005] φ (hf_up (hf_up (hf_up φ 17 0 (φ 119 0)) 17 1 (φ 119 1)) 17 2 (φ 119 2)) := fr_up r3 (by decide)
  have f6 := iv_at (a := 119) (k := 3) (lo := (-2147483648 : Int)) (u := 2147483647) hI (by decide +kernel)
  have i7 : Inv (hf_up (hf_up (hf_up (hf_up φ 17 0 (φ 119 0)) 17 1 (φ 119 1)) 17 2 (φ 119 2)) 17 3 (φ 119 3)) := iv_up (lo := (-2147483648 : Int)) (u := 2147483647) i5 (by decide +kernel) (by omega) (by omega)
  have r7 : Fr [18, 19, 20, 21, 22, 23, 24, 25, 18000, 18001, 18002, 18003, 18004, 18005] φ (hf_up (hf_up (hf_up (hf_up φ 17 0 (φ 119 0)) 17 1 (φ 119 1)) 17 2 (φ 119 2)) 17 3 (φ 119 3)) := fr_up r5 (by decide)
  have i8 : Inv (hf_up (hf_up (hf_up (hf_up (hf_up φ 17 0 (φ 119 0)) 17 1 (φ 119 1)) 17 2 (φ 119 2)) 17 3 (φ 119 3)) 17 4 (φ 119 4)) := iv_upn i7 (by decide) (by decide) (by decide +kernel)
  have r8 : Fr [18, 19, 20, 21, 22, 23, 24, 25, 18000, 18001, 18002, 18003, 18004, 18005] φ (hf_up (hf_up (hf_up (hf_up (hf_up φ 17 0 (φ 119 0)) 17 1 (φ 119 1)) 17 2 (φ 119 2)) 17 3 (φ 119 3)) 17 4 (φ 119 4)) := fr_up r7 (by decide)
  have i9 : Inv (hf_up (hf_up (hf_up (hf_up (hf_up (hf_up φ 17 0 (φ 119 0)) 17 1 (φ 119 1)) 17 2 (φ 119 2)) 17 3 (φ 119 3)) 17 4 (φ 119 4)) 17 5 (φ 119 5)) := iv_upn i8 (by decide) (by decide) (by decide +kernel)
  have r9 : Fr [18, 19, 20, 21, 22, 23, 24, 25, 18000, 18001, 18002, 18003, 18004, 18005] φ (hf_up (hf_up (hf_up (hf_up (hf_up (hf_up φ 17 0 (φ 119 0)) 17 1 (φ 119 1)) 17 2 (φ 119 2)) 17 3 (φ 119 3)) 17 4 (φ 119 4)) 17 5 (φ 119 5)) := fr_up r8 (by decide)
  have i10 : Inv (hf_cp (hf_up (hf_up (hf_up (hf_up (hf_up (hf_up φ 17 0 (φ 119 0)) 17 1 (φ 119 1)) 17 2 (φ 119 2)) 17 3 (φ 119 3)) 17 4 (φ 119 4)) 17 5 (φ 119 5)) 120 18 8) := iv_cp i9 (by decide) (by decide +kernel)
  have r10 : Fr [18, 19, 20, 21, 22, 23, 24, 25, 18000, 18001, 18002, 18003, 18004, 18005] φ (hf_cp (hf_up (hf_up (hf_up (hf_up (hf_up (hf_up φ 17 0 (φ 119 0)) 17 1 (φ 119 1)) 17 2 (φ 119 2)) 17 3 (φ 119 3)) 17 4 (φ 119 4)) 17 5 (φ 119 5)) 120 18 8) := fr_cp r9 (by decide)
  have i11 : Inv (hf_cp (hf_cp (hf_up (hf_up (hf_up (hf_up (hf_up (hf_up φ 17 0 (φ 119 0)) 17 1 (φ 119 1)) 17 2 (φ 119 2)) 17 3 (φ 119 3)) 17 4 (φ 119 4)) 17 5 (φ 119 5)) 120 18 8) 121 19 8) := iv_cp i10 (by decide) (by decide +kernel)
  have r11 : Fr [18, 19, 20, 21, 22, 23, 24, 25, 18000, 18001, 18002, 18003, 18004, 18005] φ (hf_cp (hf_cp (hf_up (hf_up (hf_up (hf_up (hf_up (hf_up φ 17 0 (φ 119 0)) 17 1 (φ 119 1)) 17 2 (φ 119 2)) 17 3 (φ 119 3)) 17 4 (φ 119 4)) 17 5 (φ 119 5)) 120 18 8) 121 19 8) := fr_cp r10 (by decide)
  have i12 : Inv (hf_cp (hf_cp (hf_cp (hf_up (hf_up (hf_up (hf_up (hf_up (hf_up φ 17 0 (φ 119 0)) 17 1 (φ 119 1)) 17 2 (φ 119 2)) 17 3 (φ 119 3)) 17 4 (φ 119 4)) 17 5 (φ 119 5)) 120 18 8) 121 19 8) 122 20 6) := iv_cp i11 (by decide) (by decide +kernel)
  have r12 : Fr [18, 19, 20, 21, 22, 23, 24, 25, 18000, 18001, 18002, 18003, 18004, 18005] φ (hf_cp (hf_cp (hf_cp (hf_up (hf_up (hf_up (hf_up (hf_up (hf_up φ 17 0 (φ 119 0)) 17 1 (φ 119 1)) 17 2 (φ 119 2)) 17 3 (φ 119 3)) 17 4 (φ 119 4)) 17 5 (φ 119 5)) 120 18 8) 121 19 8) 122 20 6) := fr_cp r11 (by decide)
  have i13 : Inv (hf_cp (hf_cp (hf_cp (hf_cp (hf_up (hf_up (hf_up (hf_up (hf_up (hf_up φ 17 0 (φ 119 0)) 17 1 (φ 119 1)) 17 2 (φ 119 2)) 17 3 (φ 119 3)) 17 4 (φ 119 4)) 17 5 (φ 119 5)) 120 18 8) 121 19 8) 122 20 6) 123 21 6) := iv_cp i12 (by decide) (by decide +kernel)
  have r13 : Fr [18, 19, 20, 21, 22, 23, 24, 25, 18000, 18001, 18002, 18003, 18004, 18005] φ (hf_cp (hf_cp (hf_cp (hf_cp (hf_up (hf_up (hf_up (hf_up (hf_up (hf_up φ 17 0 (φ 119 0)) 17 1 (φ 119 1)) 17 2 (φ 119 2)) 17 3 (φ 119 3)) 17 4 (φ 119 4)) 17 5 (φ 119 5)) 120 18 8) 121 19 8) 122 20 6) 123 21 6) := fr_cp r12 (by decide)
  have i14 : Inv (hf_cp (hf_cp (hf_cp (hf_cp (hf_cp (hf_up (hf_up (hf_up (hf_up (hf_up (hf_up φ 17 0 (φ 119 0)) 17 1 (φ 119 1)) 17 2 (φ 119 2)) 17 3 (φ 119 3)) 17 4 (φ 119 4)) 17 5 (φ 119 5)) 120 18 8) 121 19 8) 122 20 6) 123 21 6) 124 22 36) := iv_cp i13 (by decide) (by decide +kernel)
  have r14 : Fr [18, 19, 20, 21, 22, 23, 24, 25, 18000, 18001, 18002, 18003, 18004, 18005] φ (hf_cp (hf_cp (hf_cp (hf_cp (hf_cp (hf_up (hf_up (hf_up (hf_up (hf_up (hf_up φ 17 0 (φ 119 0)) 17 1 (φ 119 1)) 17 2 (φ 119 2)) 17 3 (φ 119 3)) 17 4 (φ 119 4)) 17 5 (φ 119 5)) 120 18 8) 121 19 8) 122 20 6) 123 21 6) 124 22 36) := fr_cp r13 (by decide)
  have i15 : Inv (hf_cp (hf_cp (hf_cp (hf_cp (hf_cp (hf_cp (hf_up (hf_up (hf_up (hf_up (hf_up (hf_up φ 17 0 (φ 119 0)) 17 1 (φ 119 1)) 17 2 (φ 119 2)) 17 3 (φ 119 3)) 17 4 (φ 119 4)) 17 5 (φ 119 5)) 120 18 8) 121 19 8) 122 20 6) 123 21 6) 124 22 36) 125 23 6) := iv_cp i14 (by decide) (by decide +kernel)
  have r15 : Fr [18, 19, 20, 21, 22, 23, 24, 25, 18000, 18001, 18002, 18003, 18004, 18005] φ (hf_cp (hf_cp (hf_cp (hf_cp (hf_cp (hf_cp (hf_up (hf_up (hf_up (hf_up (hf_up (hf_up φ 17 0 (φ 119 0)) 17 1 (φ 119 1)) 17 2 (φ 119 2)) 17 3 (φ 119 3)) 17 4 (φ 119 4)) 17 5 (φ 119 5)) 120 18 8) 121 19 8) 122 20 6) 123 21 6) 124 22 36) 125 23 6) := fr_cp r14 (by decide)
  have i16 : Inv (hf_cp (hf_cp (hf_cp (hf_cp (hf_cp (hf_cp (hf_cp (hf_up (hf_up (hf_up (hf_up (hf_up (hf_up φ 17 0 (φ 119 0)) 17 1 (φ 119 1)) 17 2 (φ 119 2)) 17 3 (φ 119 3)) 17 4 (φ 119 4)) 17 5 (φ 119 5)) 120 18 8) 121 19 8) 122 20 6) 123 21 6) 124 22 36) 125 23 6) 126 24 6) := iv_cp i15 (by decide) (by decide +kernel)
  have r16 : Fr [18, 19, 20, 21, 22, 23, 24, 25, 18000, 18001, 18002, 18003, 18004, 18005] φ (hf_cp (hf_cp (hf_cp (hf_cp (hf_cp (hf_cp (hf_cp (hf_up (hf_up (hf_up (hf_up (hf_up (hf_up φ 17 0 (φ 119 0)) 17 1 (φ 119 1)) 17 2 (φ 119 2)) 17 3 (φ 119 3)) 17 4 (φ 119 4)) 17 5 (φ 119 5)) 120 18 8) 121 19 8) 122 20 6) 123 21 6) 124 22 36) 125 23 6) 126 24 6) := fr_cp r15 (by decide)
  have i17 : Inv (hf_cp (hf_cp (hf_cp (hf_cp (hf_cp (hf_cp (hf_cp (hf_cp (hf_up (hf_up (hf_up (hf_up (hf_up (hf_up φ 17 0 (φ 119 0)) 17 1 (φ 119 1)) 17 2 (φ 119 2)) 17 3 (φ 119 3)) 17 4 (φ 119 4)) 17 5 (φ 119 5)) 120 18 8) 121 19 8) 122 20 6) 123 21 6) 124 22 36) 125 23 6) 126 24 6) 127 25 8) := iv_cp i16 (by decide) (by decide +kernel)
  have r17 : Fr [18, 19, 20, 21, 22, 23, 24, 25, 18000, 18001, 18002, 18003, 18004, 18005] φ (hf_cp (hf_cp (hf_cp (hf_cp (hf_cp (hf_cp (hf_cp (hf_cp (hf_up (hf_up (hf_up (hf_up (hf_up (hf_up φ 17 0 (φ 119 0)) 17 1 (φ 119 1)) 17 2 (φ 119 2)) 17 3 (φ 119 3)) 17 4 (φ 119 4)) 17 5 (φ 119 5)) 120 18 8) 121 19 8) 122 20 6) 123 21 6) 124 22 36) 125 23 6) 126 24 6) 127 25 8) := fr_cp r16 (by decide)
  exact hQ (hf_cp (hf_cp (hf_cp (hf_cp (hf_cp (hf_cp (hf_cp (hf_cp (hf_up (hf_up (hf_up (hf_up (hf_up (hf_up φ 17 0 (φ 119 0)) 17 1 (φ 119 1)) 17 2 (φ 119 2)) 17 3 (φ 119 3)) 17 4 (φ 119 4)) 17 5 (φ 119 5)) 120 18 8) 121 19 8) 122 20 6) 123 21 6) 124 22 36) 125 23 6) 126 24 6) 127 25 8) i17 r17 e0
theorem sf_66_17_128_v {sc : List Int} {d : Nat} {φ : hf_F} {x : Nat} {Q : Option jm_V → hf_F → Nat → Prop} 
    (H : Q none (hf_cp (hf_cp (hf_cp (hf_cp (hf_cp (hf_cp (hf_cp (hf_cp (hf_up (hf_up (hf_up (hf_up (hf_up (hf_up φ 17 0 (φ 128 0)) 17 1 (φ 128 1)) 17 2 (φ 128 2)) 17 3 (φ 128 3)) 17 4 (φ 128 4)) 17 5 (φ 128 5)) 129 18 8) 130 19 8) 131 20 6) 132 21 6) 133 22 36) 134 23 6) 135 24 6) 136 25 8) x) :
    hw sc d 66 0 [(0, (2, 17)), (1, (2, 128))] [] φ x Q := by
  refine hw_ald (b := 0) (e := 0) (by decide +kernel) rfl (by decide) ?_
  refine hw_ald (b := 1) (e := 0) (by decide +kernel) rfl (by decide) ?_
  refine hr_gi (w := φ 128 0) (b := 4) (e := 0) 128 rfl (by decide +kernel) rfl ?_
  refine hr_pi (b := 4) (e := 0) 17 rfl (by decide +kernel) ?_
  refine hw_ald (b := 0) (e := 0) (by decide +kernel) rfl (by decide) ?_
  refine hw_ald (b := 1) (e := 0) (by decide +kernel) rfl (by decide) ?_
  refine hr_gi (w := φ 128 1) (b := 4) (e := 1) 128 rfl (by decide +kernel) (hf_up_ne (fun q => absurd q.1 (by decide))) ?_
  refine hr_pi (b := 4) (e := 1) 17 rfl (by decide +kernel) ?_
  refine hw_ald (b := 0) (e := 0) (by decide +kernel) rfl (by decide) ?_
  refine hw_ald (b := 1) (e := 0) (by decide +kernel) rfl (by decide) ?_
  refine hr_gi (w := φ 128 2) (b := 4) (e := 2) 128 rfl (by decide +kernel) ((hf_up_ne (fun q => absurd q.1 (by decide))).trans (hf_up_ne (fun q => absurd q.1 (by decide)))) ?_
  refine hr_pi (b := 4) (e := 2) 17 rfl (by decide +kernel) ?_
  refine hw_ald (b := 0) (e := 0) (by decide +kernel) rfl (by decide) ?_
  refine hw_ald (b := 1) (e := 0) (by decide +kernel) rfl (by decide) ?_
  refine hr_gi (w := φ 128 3) (b := 4) (e := 3) 128 rfl (by decide +kernel) ((hf_up_ne (fun q => absurd q.1 (by decide))).trans ((hf_up_ne (fun q => absurd q.1 (by decide))).trans (hf_up_ne (fun q => absurd q.1 (by decide))))) ?_
  refine hr_pi (b := 4) (e := 3) 17 rfl (by decide +kernel) ?_
  refine hw_ald (b := 0) (e := 0) (by decide +kernel) rfl (by decide) ?_
  refine hw_ald (b := 1) (e := 0) (by decide +kernel) rfl (by decide) ?_
  refine hr_gi (w := φ 128 4) (b := 4) (e := 4) 128 rfl (by decide +kernel) ((hf_up_ne (fun q => absurd q.1 (by decide))).trans ((hf_up_ne (fun q => absurd q.1 (by decide))).trans ((hf_up_ne (fun q => absurd q.1 (by decide))).trans (hf_up_ne (fun q => absurd q.1 (by decide)))))) ?_
  refine hr_pi (b := 4) (e := 4) 17 rfl (by decide +kernel) ?_
  refine hw_ald (b := 0) (e := 0) (by decide +kernel) rfl (by decide) ?_
  refine hw_ald (b := 1) (e := 0) (by decide +kernel) rfl (by decide) ?_
  refine hr_gi (w := φ 128 5) (b := 4) (e := 5) 128 rfl (by decide +kernel) ((hf_up_ne (fun q => absurd q.1 (by decide))).trans ((hf_up_ne (fun q => absurd q.1 (by decide))).trans ((hf_up_ne (fun q => absurd q.1 (by decide))).trans ((hf_up_ne (fun q => absurd q.1 (by decide))).trans (hf_up_ne (fun q => absurd q.1 (by decide))))))) ?_
  refine hr_pi (b := 4) (e := 5) 17 rfl (by decide +kernel) ?_
  refine hw_ald (b := 1) (e := 0) (by decide +kernel) rfl (by decide) ?_
  refine hr_gr (w := 129) (b := 4) (e := 6) 128 rfl (by decide +kernel) ?_
  refine hw_k (c := 0) (b := 0) (e := 1) (by decide +kernel) ?_
  refine hw_ald (b := 0) (e := 0) (by decide +kernel) rfl (by decide) ?_
  refine hr_gr (w := 18) (b := 4) (e := 6) 17 rfl (by decide +kernel) ?_
  refine hw_k (c := 0) (b := 0) (e := 1) (by decide +kernel) ?_
  refine hw_k (c := 8) (b := 1) (e := 2) (by decide +kernel) ?_
  refine hr_cp (a0 := 0) (b0 := 0) (e := 0) 129 18 8 rfl rfl rfl (by decide +kernel) (Nat.le_of_ble_eq_true rfl) ?_
  refine hw_ald (b := 1) (e := 0) (by decide +kernel) rfl (by decide) ?_
  refine hr_gr (w := 130) (b := 4) (e := 7) 128 rfl (by decide +kernel) ?_
  refine hw_k (c := 0) (b := 0) (e := 1) (by decide +kernel) ?_
  refine hw_ald (b := 0) (e := 0) (by decide +kernel) rfl (by decide) ?_
  refine hr_gr (w := 19) (b := 4) (e := 7) 17 rfl (by decide +kernel) ?_
  refine hw_k (c := 0) (b := 0) (e := 1) (by decide +kernel) ?_
  refine hw_k (c := 8) (b := 1) (e := 2) (by decide +kernel) ?_
  refine hr_cp (a0 := 0) (b0 := 0) (e := 0) 130 19 8 rfl rfl rfl (by decide +kernel) (Nat.le_of_ble_eq_true rfl) ?_
  refine hw_ald (b := 1) (e := 0) (by decide +kernel) rfl (by decide) ?_
  refine hr_gr (w := 131) (b := 4) (e := 8) 128 rfl (by decide +kernel) ?_
  refine hw_k (c := 0) (b := 0) (e := 1) (by decide +kernel) ?_
  refine hw_ald (b := 0) (e := 0) (by decide +kernel) rfl (by decide) ?_
  refine hr_gr (w := 20) (b := 4) (e := 8) 17 rfl (by decide +kernel) ?_
  refine hw_k (c := 0) (b := 0) (e := 1) (by decide +kernel) ?_
  refine hw_k (c := 6) (b := 1) (e := 2) (by decide +kernel) ?_
  refine hr_cp (a0 := 0) (b0 := 0) (e := 0) 131 20 6 rfl rfl rfl (by decide +kernel) (Nat.le_of_ble_eq_true rfl) ?_
  refine hw_ald (b := 1) (e := 0) (by decide +kernel) rfl (by decide) ?_
  refine hr_gr (w := 132) (b := 4) (e := 9) 128 rfl (by decide +kernel) ?_
  refine hw_k (c := 0) (b := 0) (e := 1) (by decide +kernel) ?_
  refine hw_ald (b := 0) (e := 0) (by decide +kernel) rfl (by decide) ?_
  refine hr_gr (w := 21) (b := 4) (e := 9) 17 rfl (by decide +kernel) ?_
  refine hw_k (c := 0) (b := 0) (e := 1) (by decide +kernel) ?_
  refine hw_k (c := 6) (b := 1) (e := 2) (by decide +kernel) ?_
  refine hr_cp (a0 := 0) (b0 := 0) (e := 0) 132 21 6 rfl rfl rfl (by decide +kernel) (Nat.le_of_ble_eq_true rfl) ?_
  refine hw_ald (b := 1) (e := 0) (by decide +kernel) rfl (by decide) ?_
  refine hr_gr (w := 133) (b := 4) (e := 10) 128 rfl (by decide +kernel) ?_
  refine hw_k (c := 0) (b := 0) (e := 1) (by decide +kernel) ?_
  refine hw_ald (b := 0) (e := 0) (by decide +kernel) rfl (by decide) ?_
  refine hr_gr (w := 22) (b := 4) (e := 10) 17 rfl (by decide +kernel) ?_
  refine hw_k (c := 0) (b := 0) (e := 1) (by decide +kernel) ?_
  refine hw_k (c := 36) (b := 1) (e := 2) (by decide +kernel) ?_
  refine hr_cp (a0 := 0) (b0 := 0) (e := 0) 133 22 36 rfl rfl rfl (by decide +kernel) (Nat.le_of_ble_eq_true rfl) ?_
  refine hw_ald (b := 1) (e := 0) (by decide +kernel) rfl (by decide) ?_
  refine hr_gr (w := 134) (b := 4) (e := 11) 128 rfl (by decide +kernel) ?_
  refine hw_k (c := 0) (b := 0) (e := 1) (by decide +kernel) ?_
  refine hw_ald (b := 0) (e := 0) (by decide +kernel) rfl (by decide) ?_
  refine hr_gr (w := 23) (b := 4) (e := 11) 17 rfl (by decide +kernel) ?_
  refine hw_k (c := 0) (b := 0) (e := 1) (by decide +kernel) ?_
  refine hw_k (c := 6) (b := 1) (e := 2) (by decide +kernel) ?_
  refine hr_cp (a0 := 0) (b0 := 0) (e := 0) 134 23 6 rfl rfl rfl (by decide +kernel) (Nat.le_of_ble_eq_true rfl) ?_
  refine hw_ald (b := 1) (e := 0) (by decide +kernel) rfl (by decide) ?_
  refine hr_gr (w := 135) (b := 4) (e := 12) 128 rfl (by decide +kernel) ?_
  refine hw_k (c := 0) (b := 0) (e := 1) (by decide +kernel) ?_
  refine hw_ald (b := 0) (e := 0) (by decide +kernel) rfl (by decide) ?_
  refine hr_gr (w := 24) (b := 4) (e := 12) 17 rfl (by decide +kernel) ?_
  refine hw_k (c := 0) (b := 0) (e := 1) (by decide +kernel) ?_
  refine hw_k (c := 6) (b := 1) (e := 2) (by decide +kernel) ?_
  refine hr_cp (a0 := 0) (b0 := 0) (e := 0) 135 24 6 rfl rfl rfl (by decide +kernel) (Nat.le_of_ble_eq_true rfl) ?_
  refine hw_ald (b := 1) (e := 0) (by decide +kernel) rfl (by decide) ?_
  refine hr_gr (w := 136) (b := 4) (e := 13) 128 rfl (by decide +kernel) ?_
  refine hw_k (c := 0) (b := 0) (e := 1) (by decide +kernel) ?_
  refine hw_ald (b := 0) (e := 0) (by decide +kernel) rfl (by decide) ?_
  refine hr_gr (w := 25) (b := 4) (e := 13) 17 rfl (by decide +kernel) ?_
  refine hw_k (c := 0) (b := 0) (e := 1) (by decide +kernel) ?_
  refine hw_k (c := 8) (b := 1) (e := 2) (by decide +kernel) ?_
  refine hr_cp (a0 := 0) (b0 := 0) (e := 0) 136 25 8 rfl rfl rfl (by decide +kernel) (Nat.le_of_ble_eq_true rfl) ?_
  exact hw_vret (a0 := 0) (e := 0) (by decide +kernel) H
theorem sf_66_17_128 {sc : List Int} {d : Nat} {φ : hf_F} {x : Nat} {Q : Option jm_V → hf_F → Nat → Prop}  (hI : Inv φ)  (hQ : ∀ ψ : hf_F, Inv ψ → Fr [18, 19, 20, 21, 22, 23, 24, 25, 18000, 18001, 18002, 18003, 18004, 18005] φ ψ → F_State_copyFrom_17_128 φ = ψ → Q none ψ x) : hw sc d 66 0 [(0, (2, 17)), (1, (2, 128))] [] φ x Q := by
  apply sf_66_17_128_v
  have e0 : F_State_copyFrom_17_128 φ = _ := rfl
  have i1 : Inv (hf_up φ 17 0 (φ 128 0)) := iv_upn hI (by decide) (by decide) (by decide +kernel)
  have r1 : Fr [18, 19, 20, 21, 22, 23, 24, 25, 18000, 18001, 18002, 18003, 18004, 18005] φ (hf_up φ 17 0 (φ 128 0)) := fr_up (fr_rf) (by decide)
  have f2 := iv_at (a := 128) (k := 1) (lo := (-1 : Int)) (u := 7) hI (by decide +kernel)
  have i3 : Inv (hf_up (hf_up φ 17 0 (φ 128 0)) 17 1 (φ 128 1)) := iv_up (lo := (-1 : Int)) (u := 7) i1 (by decide +kernel) (by omega) (by omega)
  have r3 : Fr [18, 19, 20, 21, 22, 23, 24, 25, 18000, 18001, 18002, 18003, 18004, 18005] φ (hf_up (hf_up φ 17 0 (φ 128 0)) 17 1 (φ 128 1)) := fr_up r1 (by decide)
  have f4 := iv_at (a := 128) (k := 2) (lo := (-1 : Int)) (u := 5) hI (by decide +kernel)
  have i5 : Inv (hf_up (hf_up (hf_up φ 17 0 (φ 128 0)) 17 1 (φ 128 1)) 17 2 (φ 128 2)) := iv_up (lo := (-1 : Int)) (u := 5) i3 (by decide +kernel) (by omega) (by omega)
  have r5 : Fr [18, 19, 20, 21, 22, 23, 24, 25, 18000, 18001, 18002, 18003, 18004, 18005] φ (hf_up (hf_up (hf_up φ 17 0 (φ 128 0)) 17 1 (φ 128 1)) 17 2 (φ 128 2)) := fr_up r3 (by decide)
  have f6 := iv_at (a := 128) (k := 3) (lo := (-2147483648 : Int)) (u := 2147483647) hI (by decide +kernel)
  have i7 : Inv (hf_up (hf_up (hf_up (hf_up φ 17 0 (φ 128 0)) 17 1 (φ 128 1)) 17 2 (φ 128 2)) 17 3 (φ 128 3)) := iv_up (lo := (-2147483648 : Int)) (u := 2147483647) i5 (by decide +kernel) (by omega) (by omega)
  have r7 : Fr [18, 19, 20, 21, 22, 23, 24, 25, 18000, 18001, 18002, 18003, 18004, 18005] φ (hf_up (hf_up (hf_up (hf_up φ 17 0 (φ 128 0)) 17 1 (φ 128 1)) 17 2 (φ 128 2)) 17 3 (φ 128 3)) := fr_up r5 (by decide)
  have i8 : Inv (hf_up (hf_up (hf_up (hf_up (hf_up φ 17 0 (φ 128 0)) 17 1 (φ 128 1)) 17 2 (φ 128 2)) 17 3 (φ 128 3)) 17 4 (φ 128 4)) := iv_upn i7 (by decide) (by decide) (by decide +kernel)
  have r8 : Fr [18, 19, 20, 21, 22, 23, 24, 25, 18000, 18001, 18002, 18003, 18004, 18005] φ (hf_up (hf_up (hf_up (hf_up (hf_up φ 17 0 (φ 128 0)) 17 1 (φ 128 1)) 17 2 (φ 128 2)) 17 3 (φ 128 3)) 17 4 (φ 128 4)) := fr_up r7 (by decide)
  have i9 : Inv (hf_up (hf_up (hf_up (hf_up (hf_up (hf_up φ 17 0 (φ 128 0)) 17 1 (φ 128 1)) 17 2 (φ 128 2)) 17 3 (φ 128 3)) 17 4 (φ 128 4)) 17 5 (φ 128 5)) := iv_upn i8 (by decide) (by decide) (by decide +kernel)
  have r9 : Fr [18, 19, 20, 21, 22, 23, 24, 25, 18000, 18001, 18002, 18003, 18004, 18005] φ (hf_up (hf_up (hf_up (hf_up (hf_up (hf_up φ 17 0 (φ 128 0)) 17 1 (φ 128 1)) 17 2 (φ 128 2)) 17 3 (φ 128 3)) 17 4 (φ 128 4)) 17 5 (φ 128 5)) := fr_up r8 (by decide)
  have i10 : Inv (hf_cp (hf_up (hf_up (hf_up (hf_up (hf_up (hf_up φ 17 0 (φ 128 0)) 17 1 (φ 128 1)) 17 2 (φ 128 2)) 17 3 (φ 128 3)) 17 4 (φ 128 4)) 17 5 (φ 128 5)) 129 18 8) := iv_cp i9 (by decide) (by decide +kernel)
  have r10 : Fr [18, 19, 20, 21, 22, 23, 24, 25, 18000, 18001, 18002, 18003, 18004, 18005] φ (hf_cp (hf_up (hf_up (hf_up (hf_up (hf_up (hf_up φ 17 0 (φ 128 0)) 17 1 (φ 128 1)) 17 2 (φ 128 2)) 17 3 (φ 128 3)) 17 4 (φ 128 4)) 17 5 (φ 128 5)) 129 18 8) := fr_cp r9 (by decide)
  have i11 : Inv (hf_cp (hf_cp (hf_up (hf_up (hf_up (hf_up (hf_up (hf_up φ 17 0 (φ 128 0)) 17 1 (φ 128 1)) 17 2 (φ 128 2)) 17 3 (φ 128 3)) 17 4 (φ 128 4)) 17 5 (φ 128 5)) 129 18 8) 130 19 8) := iv_cp i10 (by decide) (by decide +kernel)
  have r11 : Fr [18, 19, 20, 21, 22, 23, 24, 25, 18000, 18001, 18002, 18003, 18004, 18005] φ (hf_cp (hf_cp (hf_up (hf_up (hf_up (hf_up (hf_up (hf_up φ 17 0 (φ 128 0)) 17 1 (φ 128 1)) 17 2 (φ 128 2)) 17 3 (φ 128 3)) 17 4 (φ 128 4)) 17 5 (φ 128 5)) 129 18 8) 130 19 8) := fr_cp r10 (by decide)
  have i12 : Inv (hf_cp (hf_cp (hf_cp (hf_up (hf_up (hf_up (hf_up (hf_up (hf_up φ 17 0 (φ 128 0)) 17 1 (φ 128 1)) 17 2 (φ 128 2)) 17 3 (φ 128 3)) 17 4 (φ 128 4)) 17 5 (φ 128 5)) 129 18 8) 130 19 8) 131 20 6) := iv_cp i11 (by decide) (by decide +kernel)
  have r12 : Fr [18, 19, 20, 21, 22, 23, 24, 25, 18000, 18001, 18002, 18003, 18004, 18005] φ (hf_cp (hf_cp (hf_cp (hf_up (hf_up (hf_up (hf_up (hf_up (hf_up φ 17 0 (φ 128 0)) 17 1 (φ 128 1)) 17 2 (φ 128 2)) 17 3 (φ 128 3)) 17 4 (φ 128 4)) 17 5 (φ 128 5)) 129 18 8) 130 19 8) 131 20 6) := fr_cp r11 (by decide)
  have i13 : Inv (hf_cp (hf_cp (hf_cp (hf_cp (hf_up (hf_up (hf_up (hf_up (hf_up (hf_up φ 17 0 (φ 128 0)) 17 1 (φ 128 1)) 17 2 (φ 128 2)) 17 3 (φ 128 3)) 17 4 (φ 128 4)) 17 5 (φ 128 5)) 129 18 8) 130 19 8) 131 20 6) 132 21 6) := iv_cp i12 (by decide) (by decide +kernel)
  have r13 : Fr [18, 19, 20, 21, 22, 23, 24, 25, 18000, 18001, 18002, 18003, 18004, 18005] φ (hf_cp (hf_cp (hf_cp (hf_cp (hf_up (hf_up (hf_up (hf_up (hf_up (hf_up φ 17 0 (φ 128 0)) 17 1 (φ 128 1)) 17 2 (φ 128 2)) 17 3 (φ 128 3)) 17 4 (φ 128 4)) 17 5 (φ 128 5)) 129 18 8) 130 19 8) 131 20 6) 132 21 6) := fr_cp r12 (by decide)
  have i14 : Inv (hf_cp (hf_cp (hf_cp (hf_cp (hf_cp (hf_up (hf_up (hf_up (hf_up (hf_up (hf_up φ 17 0 (φ 128 0)) 17 1 (φ 128 1)) 17 2 (φ 128 2)) 17 3 (φ 128 3)) 17 4 (φ 128 4)) 17 5 (φ 128 5)) 129 18 8) 130 19 8) 131 20 6) 132 21 6) 133 22 36) := iv_cp i13 (by decide) (by decide +kernel)
  have r14 : Fr [18, 19, 20, 21, 22, 23, 24, 25, 18000, 18001, 18002, 18003, 18004, 18005] φ (hf_cp (hf_cp (hf_cp (hf_cp (hf_cp (hf_up (hf_up (hf_up (hf_up (hf_up (hf_up φ 17 0 (φ 128 0)) 17 1 (φ 128 1)) 17 2 (φ 128 2)) 17 3 (φ 128 3)) 17 4 (φ 128 4)) 17 5 (φ 128 5)) 129 18 8) 130 19 8) 131 20 6) 132 21 6) 133 22 36) := fr_cp r13 (by decide)
  have i15 : Inv (hf_cp (hf_cp (hf_cp (hf_cp (hf_cp (hf_cp (hf_up (hf_up (hf_up (hf_up (hf_up (hf_up φ 17 0 (φ 128 0)) 17 1 (φ 128 1)) 17 2 (φ 128 2)) 17 3 (φ 128 3)) 17 4 (φ 128 4)) 17 5 (φ 128 5)) 129 18 8) 130 19 8) 131 20 6) 132 21 6) 133 22 36) 134 23 6) := iv_cp i14 (by decide) (by decide +kernel)
  have r15 : Fr [18, 19, 20, 21, 22, 23, 24, 25, 18000, 18001, 18002, 18003, 18004, 18005] φ (hf_cp (hf_cp (hf_cp (hf_cp (hf_cp (hf_cp (hf_up (hf_up (hf_up (hf_up (hf_up (hf_up φ 17 0 (φ 128 0)) 17 1 (φ 128 1)) 17 2 (φ 128 2)) 17 3 (φ 128 3)) 17 4 (φ 128 4)) 17 5 (φ 128 5)) 129 18 8) 130 19 8) 131 20 6) 132 21 6) 133 22 36) 134 23 6) := fr_cp r14 (by decide)
  have i16 : Inv (hf_cp (hf_cp (hf_cp (hf_cp (hf_cp (hf_cp (hf_cp (hf_up (hf_up (hf_up (hf_up (hf_up (hf_up φ 17 0 (φ 128 0)) 17 1 (φ 128 1)) 17 2 (φ 128 2)) 17 3 (φ 128 3)) 17 4 (φ 128 4)) 17 5 (φ 128 5)) 129 18 8) 130 19 8) 131 20 6) 132 21 6) 133 22 36) 134 23 6) 135 24 6) := iv_cp i15 (by decide) (by decide +kernel)
  have r16 : Fr [18, 19, 20, 21, 22, 23, 24, 25, 18000, 18001, 18002, 18003, 18004, 18005] φ (hf_cp (hf_cp (hf_cp (hf_cp (hf_cp (hf_cp (hf_cp (hf_up (hf_up (hf_up (hf_up (hf_up (hf_up φ 17 0 (φ 128 0)) 17 1 (φ 128 1)) 17 2 (φ 128 2)) 17 3 (φ 128 3)) 17 4 (φ 128 4)) 17 5 (φ 128 5)) 129 18 8) 130 19 8) 131 20 6) 132 21 6) 133 22 36) 134 23 6) 135 24 6) := fr_cp r15 (by decide)
  have i17 : Inv (hf_cp (hf_cp (hf_cp (hf_cp (hf_cp (hf_cp (hf_cp (hf_cp (hf_up (hf_up (hf_up (hf_up (hf_up (hf_up φ 17 0 (φ 128 0)) 17 1 (φ 128 1)) 17 2 (φ 128 2)) 17 3 (φ 128 3)) 17 4 (φ 128 4)) 17 5 (φ 128 5)) 129 18 8) 130 19 8) 131 20 6) 132 21 6) 133 22 36) 134 23 6) 135 24 6) 136 25 8) := iv_cp i16 (by decide) (by decide +kernel)
  have r17 : Fr [18, 19, 20, 21, 22, 23, 24, 25, 18000, 18001, 18002, 18003, 18004, 18005] φ (hf_cp (hf_cp (hf_cp (hf_cp (hf_cp (hf_cp (hf_cp (hf_cp (hf_up (hf_up (hf_up (hf_up (hf_up (hf_up φ 17 0 (φ 128 0)) 17 1 (φ 128 1)) 17 2 (φ 128 2)) 17 3 (φ 128 3)) 17 4 (φ 128 4)) 17 5 (φ 128 5)) 129 18 8) 130 19 8) 131 20 6) 132 21 6) 133 22 36) 134 23 6) 135 24 6) 136 25 8) := fr_cp r16 (by decide)
  exact hQ (hf_cp (hf_cp (hf_cp (hf_cp (hf_cp (hf_cp (hf_cp (hf_cp (hf_up (hf_up (hf_up (hf_up (hf_up (hf_up φ 17 0 (φ 128 0)) 17 1 (φ 128 1)) 17 2 (φ 128 2)) 17 3 (φ 128 3)) 17 4 (φ 128 4)) 17 5 (φ 128 5)) 129 18 8) 130 19 8) 131 20 6) 132 21 6) 133 22 36) 134 23 6) 135 24 6) 136 25 8) i17 r17 e0
theorem sf_66_17_137_v {sc : List Int} {d : Nat} {φ : hf_F} {x : Nat} {Q : Option jm_V → hf_F → Nat → Prop} 
    (H : Q none (hf_cp (hf_cp (hf_cp (hf_cp (hf_cp (hf_cp (hf_cp (hf_cp (hf_up (hf_up (hf_up (hf_up (hf_up (hf_up φ 17 0 (φ 137 0)) 17 1 (φ 137 1)) 17 2 (φ 137 2)) 17 3 (φ 137 3)) 17 4 (φ 137 4)) 17 5 (φ 137 5)) 138 18 8) 139 19 8) 140 20 6) 141 21 6) 142 22 36) 143 23 6) 144 24 6) 145 25 8) x) :
    hw sc d 66 0 [(0, (2, 17)), (1, (2, 137))] [] φ x Q := by
  refine hw_ald (b := 0) (e := 0) (by decide +kernel) rfl (by decide) ?_
  refine hw_ald (b := 1) (e := 0) (by decide +kernel) rfl (by decide) ?_
  refine hr_gi (w := φ 137 0) (b := 4) (e := 0) 137 rfl (by decide +kernel) rfl ?_
  refine hr_pi (b := 4) (e := 0) 17 rfl (by decide +kernel) ?_
  refine hw_ald (b := 0) (e := 0) (by decide +kernel) rfl (by decide) ?_
  refine hw_ald (b := 1) (e := 0) (by decide +kernel) rfl (by decide) ?_
  refine hr_gi (w := φ 137 1) (b := 4) (e := 1) 137 rfl (by decide +kernel) (hf_up_ne (fun q => absurd q.1 (by decide))) ?_
  refine hr_pi (b := 4) (e := 1) 17 rfl (by decide +kernel) ?_
  refine hw_ald (b := 0) (e := 0) (by decide +kernel) rfl (by decide) ?_
  refine hw_ald (b := 1) (e := 0) (by decide +kernel) rfl (by decide) ?_
  refine hr_gi (w := φ 137 2) (b := 4) (e := 2) 137 rfl (by decide +kernel) ((hf_up_ne (fun q => absurd q.1 (by decide))).trans (hf_up_ne (fun q => absurd q.1 (by decide)))) ?_
  refine hr_pi (b := 4) (e := 2) 17 rfl (by decide +kernel) ?_
  refine hw_ald (b := 0) (e := 0) (by decide +kernel) rfl (by decide) ?_
  refine hw_ald (b := 1) (e := 0) (by decide +kernel) rfl (by decide) ?_
  refine hr_gi (w := φ 137 3) (b := 4) (e := 3) 137 rfl (by decide +kernel) ((hf_up_ne (fun q => absurd q.1 (by decide))).trans ((hf_up_ne (fun q => absurd q.1 (by decide))).trans (hf_up_ne (fun q => absurd q.1 (by decide))))) ?_
  refine hr_pi (b := 4) (e := 3) 17 rfl (by decide +kernel) ?_
  refine hw_ald (b := 0) (e := 0) (by decide +kernel) rfl (by decide) ?_
  refine hw_ald (b := 1) (e := 0) (by decide +kernel) rfl (by decide) ?_
  refine hr_gi (w := φ 137 4) (b := 4) (e := 4) 137 rfl (by decide +kernel) ((hf_up_ne (fun q => absurd q.1 (by decide))).trans ((hf_up_ne (fun q => absurd q.1 (by decide))).trans ((hf_up_ne (fun q => absurd q.1 (by decide))).trans (hf_up_ne (fun q => absurd q.1 (by decide)))))) ?_
  refine hr_pi (b := 4) (e := 4) 17 rfl (by decide +kernel) ?_
  refine hw_ald (b := 0) (e := 0) (by decide +kernel) rfl (by decide) ?_
  refine hw_ald (b := 1) (e := 0) (by decide +kernel) rfl (by decide) ?_
  refine hr_gi (w := φ 137 5) (b := 4) (e := 5) 137 rfl (by decide +kernel) ((hf_up_ne (fun q => absurd q.1 (by decide))).trans ((hf_up_ne (fun q => absurd q.1 (by decide))).trans ((hf_up_ne (fun q => absurd q.1 (by decide))).trans ((hf_up_ne (fun q => absurd q.1 (by decide))).trans (hf_up_ne (fun q => absurd q.1 (by decide))))))) ?_
  refine hr_pi (b := 4) (e := 5) 17 rfl (by decide +kernel) ?_
  refine hw_ald (b := 1) (e := 0) (by decide +kernel) rfl (by decide) ?_
  refine hr_gr (w := 138) (b := 4) (e := 6) 137 rfl (by decide +kernel) ?_
  refine hw_k (c := 0) (b := 0) (e := 1) (by decide +kernel) ?_
  refine hw_ald (b := 0) (e := 0) (by decide +kernel) rfl (by decide) ?_
  refine hr_gr (w := 18) (b := 4) (e := 6) 17 rfl (by decide +kernel) ?_
  refine hw_k (c := 0) (b := 0) (e := 1) (by decide +kernel) ?_
  refine hw_k (c := 8) (b := 1) (e := 2) (by decide +kernel) ?_
  refine hr_cp (a0 := 0) (b0 := 0) (e := 0) 138 18 8 rfl rfl rfl (by decide +kernel) (Nat.le_of_ble_eq_true rfl) ?_
  refine hw_ald (b := 1) (e := 0) (by decide +kernel) rfl (by decide) ?_
  refine hr_gr (w := 139) (b := 4) (e := 7) 137 rfl (by decide +kernel) ?_
  refine hw_k (c := 0) (b := 0) (e := 1) (by decide +kernel) ?_
  refine hw_ald (b := 0) (e := 0) (by decide +kernel) rfl (by decide) ?_
  refine hr_gr (w := 19) (b := 4) (e := 7) 17 rfl (by decide +kernel) ?_
  refine hw_k (c := 0) (b := 0) (e := 1) (by decide +kernel) ?_
  refine hw_k (c := 8) (b := 1) (e := 2) (by decide +kernel) ?_
  refine hr_cp (a0 := 0) (b0 := 0) (e := 0) 139 19 8 rfl rfl rfl (by decide +kernel) (Nat.le_of_ble_eq_true rfl) ?_
  refine hw_ald (b := 1) (e := 0) (by decide +kernel) rfl (by decide) ?_
  refine hr_gr (w := 140) (b := 4) (e := 8) 137 rfl (by decide +kernel) ?_
  refine hw_k (c := 0) (b := 0) (e := 1) (by decide +kernel) ?_
  refine hw_ald (b := 0) (e := 0) (by decide +kernel) rfl (by decide) ?_
  refine hr_gr (w := 20) (b := 4) (e := 8) 17 rfl (by decide +kernel) ?_
  refine hw_k (c := 0) (b := 0) (e := 1) (by decide +kernel) ?_
  refine hw_k (c := 6) (b := 1) (e := 2) (by decide +kernel) ?_
  refine hr_cp (a0 := 0) (b0 := 0) (e := 0) 140 20 6 rfl rfl rfl (by decide +kernel) (Nat.le_of_ble_eq_true rfl) ?_
  refine hw_ald (b := 1) (e := 0) (by decide +kernel) rfl (by decide) ?_
  refine hr_gr (w := 141) (b := 4) (e := 9) 137 rfl (by decide +kernel) ?_
  refine hw_k (c := 0) (b := 0) (e := 1) (by decide +kernel) ?_
  refine hw_ald (b := 0) (e := 0) (by decide +kernel) rfl (by decide) ?_
  refine hr_gr (w := 21) (b := 4) (e := 9) 17 rfl (by decide +kernel) ?_
  refine hw_k (c := 0) (b := 0) (e := 1) (by decide +kernel) ?_
  refine hw_k (c := 6) (b := 1) (e := 2) (by decide +kernel) ?_
  refine hr_cp (a0 := 0) (b0 := 0) (e := 0) 141 21 6 rfl rfl rfl (by decide +kernel) (Nat.le_of_ble_eq_true rfl) ?_
  refine hw_ald (b := 1) (e := 0) (by decide +kernel) rfl (by decide) ?_
  refine hr_gr (w := 142) (b := 4) (e := 10) 137 rfl (by decide +kernel) ?_
  refine hw_k (c := 0) (b := 0) (e := 1) (by decide +kernel) ?_
  refine hw_ald (b := 0) (e := 0) (by decide +kernel) rfl (by decide) ?_
  refine hr_gr (w := 22) (b := 4) (e := 10) 17 rfl (by decide +kernel) ?_
  refine hw_k (c := 0) (b := 0) (e := 1) (by decide +kernel) ?_
  refine hw_k (c := 36) (b := 1) (e := 2) (by decide +kernel) ?_
  refine hr_cp (a0 := 0) (b0 := 0) (e := 0) 142 22 36 rfl rfl rfl (by decide +kernel) (Nat.le_of_ble_eq_true rfl) ?_
  refine hw_ald (b := 1) (e := 0) (by decide +kernel) rfl (by decide) ?_
  refine hr_gr (w := 143) (b := 4) (e := 11) 137 rfl (by decide +kernel) ?_
  refine hw_k (c := 0) (b := 0) (e := 1) (by decide +kernel) ?_
  refine hw_ald (b := 0) (e := 0) (by decide +kernel) rfl (by decide) ?_
  refine hr_gr (w := 23) (b := 4) (e := 11) 17 rfl (by decide +kernel) ?_
  refine hw_k (c := 0) (b := 0) (e := 1) (by decide +kernel) ?_
  refine hw_k (c := 6) (b := 1) (e := 2) (by decide +kernel) ?_
  refine hr_cp (a0 := 0) (b0 := 0) (e := 0) 143 23 6 rfl rfl rfl (by decide +kernel) (Nat.le_of_ble_eq_true rfl) ?_
  refine hw_ald (b := 1) (e := 0) (by decide +kernel) rfl (by decide) ?_
  refine hr_gr (w := 144) (b := 4) (e := 12) 137 rfl (by decide +kernel) ?_
  refine hw_k (c := 0) (b := 0) (e := 1) (by decide +kernel) ?_
  refine hw_ald (b := 0) (e := 0) (by decide +kernel) rfl (by decide) ?_
  refine hr_gr (w := 24) (b := 4) (e := 12) 17 rfl (by decide +kernel) ?_
  refine hw_k (c := 0) (b := 0) (e := 1) (by decide +kernel) ?_
  refine hw_k (c := 6) (b := 1) (e := 2) (by decide +kernel) ?_
  refine hr_cp (a0 := 0) (b0 := 0) (e := 0) 144 24 6 rfl rfl rfl (by decide +kernel) (Nat.le_of_ble_eq_true rfl) ?_
  refine hw_ald (b := 1) (e := 0) (by decide +kernel) rfl (by decide) ?_
  refine hr_gr (w := 145) (b := 4) (e := 13) 137 rfl (by decide +kernel) ?_
  refine hw_k (c := 0) (b := 0) (e := 1) (by decide +kernel) ?_
  refine hw_ald (b := 0) (e := 0) (by decide +kernel) rfl (by decide) ?_
  refine hr_gr (w := 25) (b := 4) (e := 13) 17 rfl (by decide +kernel) ?_
  refine hw_k (c := 0) (b := 0) (e := 1) (by decide +kernel) ?_
  refine hw_k (c := 8) (b := 1) (e := 2) (by decide +kernel) ?_
  refine hr_cp (a0 := 0) (b0 := 0) (e := 0) 145 25 8 rfl rfl rfl (by decide +kernel) (Nat.le_of_ble_eq_true rfl) ?_
  exact hw_vret (a0 := 0) (e := 0) (by decide +kernel) H
theorem sf_66_17_137 {sc : List Int} {d : Nat} {φ : hf_F} {x : Nat} {Q : Option jm_V → hf_F → Nat → Prop}  (hI : Inv φ)  (hQ : ∀ ψ : hf_F, Inv ψ → Fr [18, 19, 20, 21, 22, 23, 24, 25, 18000, 18001, 18002, 18003, 18004, 18005] φ ψ → F_State_copyFrom_17_137 φ = ψ → Q none ψ x) : hw sc d 66 0 [(0, (2, 17)), (1, (2, 137))] [] φ x Q := by
  apply sf_66_17_137_v
  have e0 : F_State_copyFrom_17_137 φ = _ := rfl
  have i1 : Inv (hf_up φ 17 0 (φ 137 0)) := iv_upn hI (by decide) (by decide) (by decide +kernel)
  have r1 : Fr [18, 19, 20, 21, 22, 23, 24, 25, 18000, 18001, 18002, 18003, 18004, 18005] φ (hf_up φ 17 0 (φ 137 0)) := fr_up (fr_rf) (by decide)
  have f2 := iv_at (a := 137) (k := 1) (lo := (-1 : Int)) (u := 7) hI (by decide +kernel)
  have i3 : Inv (hf_up (hf_up φ 17 0 (φ 137 0)) 17 1 (φ 137 1)) := iv_up (lo := (-1 : Int)) (u := 7) i1 (by decide +kernel) (by omega) (by omega)
  have r3 : Fr [18, 19, 20, 21, 22, 23, 24, 25, 18000, 18001, 18002, 18003, 18004, 18005] φ (hf_up (hf_up φ 17 0 (φ 137 0)) 17 1 (φ 137 1)) := fr_up r1 (by decide)
  have f4 := iv_at (a := 137) (k := 2) (lo := (-1 : Int)) (u := 5) hI (by decide +kernel)
  have i5 : Inv (hf_up (hf_up (hf_up φ 17 0 (φ 137 0)) 17 1 (φ 137 1)) 17 2 (φ 137 2)) := iv_up (lo := (-1 : Int)) (u := 5) i3 (by decide +kernel) (by omega) (by omega)
  have r5 : Fr [18, 19, 20, 21, 22, 23, 24, 25, 18000, 18001, 18002, 18003, 18004, 18005] φ (hf_up (hf_up (hf_up φ 17 0 (φ 137 0)) 17 1 (φ 137 1)) 17 2 (φ 137 2)) := fr_up r3 (by decide)
  have f6 := iv_at (a := 137) (k := 3) (lo := (-2147483648 : Int)) (u := 2147483647) hI (by decide +kernel)
  have i7 : Inv (hf_up (hf_up (hf_up (hf_up φ 17 0 (φ 137 0)) 17 1 (φ 137 1)) 17 2 (φ 137 2)) 17 3 (φ 137 3)) := iv_up (lo := (-2147483648 : Int)) (u := 2147483647) i5 (by decide +kernel) (by omega) (by omega)
  have r7 : Fr [18, 19, 20, 21, 22, 23, 24, 25, 18000, 18001, 18002, 18003, 18004, 18005] φ (hf_up (hf_up (hf_up (hf_up φ 17 0 (φ 137 0)) 17 1 (φ 137 1)) 17 2 (φ 137 2)) 17 3 (φ 137 3)) := fr_up r5 (by decide)
  have i8 : Inv (hf_up (hf_up (hf_up (hf_up (hf_up φ 17 0 (φ 137 0)) 17 1 (φ 137 1)) 17 2 (φ 137 2)) 17 3 (φ 137 3)) 17 4 (φ 137 4)) := iv_upn i7 (by decide) (by decide) (by decide +kernel)
  have r8 : Fr [18, 19, 20, 21, 22, 23, 24, 25, 18000, 18001, 18002, 18003, 18004, 18005] φ (hf_up (hf_up (hf_up (hf_up (hf_up φ 17 0 (φ 137 0)) 17 1 (φ 137 1)) 17 2 (φ 137 2)) 17 3 (φ 137 3)) 17 4 (φ 137 4)) := fr_up r7 (by decide)
  have i9 : Inv (hf_up (hf_up (hf_up (hf_up (hf_up (hf_up φ 17 0 (φ 137 0)) 17 1 (φ 137 1)) 17 2 (φ 137 2)) 17 3 (φ 137 3)) 17 4 (φ 137 4)) 17 5 (φ 137 5)) := iv_upn i8 (by decide) (by decide) (by decide +kernel)
  have r9 : Fr [18, 19, 20, 21, 22, 23, 24, 25, 18000, 18001, 18002, 18003, 18004, 18005] φ (hf_up (hf_up (hf_up (hf_up (hf_up (hf_up φ 17 0 (φ 137 0)) 17 1 (φ 137 1)) 17 2 (φ 137 2)) 17 3 (φ 137 3)) 17 4 (φ 137 4)) 17 5 (φ 137 5)) := fr_up r8 (by decide)
  have i10 : Inv (hf_cp (hf_up (hf_up (hf_up (hf_up (hf_up (hf_up φ 17 0 (φ 137 0)) 17 1 (φ 137 1)) 17 2 (φ 137 2)) 17 3 (φ 137 3)) 17 4 (φ 137 4)) 17 5 (φ 137 5)) 138 18 8) := iv_cp i9 (by decide) (by decide +kernel)
  have r10 : Fr [18, 19, 20, 21, 22, 23, 24, 25, 18000, 18001, 18002, 18003, 18004, 18005] φ (hf_cp (hf_up (hf_up (hf_up (hf_up (hf_up (hf_up φ 17 0 (φ 137 0)) 17 1 (φ 137 1)) 17 2 (φ 137 2)) 17 3 (φ 137 3)) 17 4 (φ 137 4)) 17 5 (φ 137 5)) 138 18 8) := fr_cp r9 (by decide)
  have i11 : Inv (hf_cp (hf_cp (hf_up (hf_up (hf_up (hf_up (hf_up (hf_up φ 17 0 (φ 137 0)) 17 1 (φ 137 1)) 17 2 (φ 137 2)) 17 3 (φ 137 3)) 17 4 (φ 137 4)) 17 5 (φ 137 5)) 138 18 8) 139 19 8) := iv_cp i10 (by decide) (by decide +kernel)
  have r11 : Fr [18, 19, 20, 21, 22, 23, 24, 25, 18000, 18001, 18002, 18003, 18004, 18005] φ (hf_cp (hf_cp (hf_up (hf_up (hf_up (hf_up (hf_up (hf_up φ 17 0 (φ 137 0)) 17 1 (φ 137 1)) 17 2 (φ 137 2)) 17 3 (φ 137 3)) 17 4 (φ 137 4)) 17 5 (φ 137 5)) 138 18 8) 139 19 8) := fr_cp r10 (by decide)
  have i12 : Inv (hf_cp (hf_cp (hf_cp (hf_up (hf_up (hf_up (hf_up (hf_up (hf_up φ 17 0 (φ 137 0)) 17 1 (φ 137 1)) 17 2 (φ 137 2)) 17 3 (φ 137 3)) 17 4 (φ 137 4)) 17 5 (φ 137 5)) 138 18 8) 139 19 8) 140 20 6) := iv_cp i11 (by decide) (by decide +kernel)
  have r12 : Fr [18, 19, 20, 21, 22, 23, 24, 25, 18000, 18001, 18002, 18003, 18004, 18005] φ (hf_cp (hf_cp (hf_cp (hf_up (hf_up (hf_up (hf_up (hf_up (hf_up φ 17 0 (φ 137 0)) 17 1 (φ 137 1)) 17 2 (φ 137 2)) 17 3 (φ 137 3)) 17 4 (φ 137 4)) 17 5 (φ 137 5)) 138 18 8) 139 19 8) 140 20 6) := fr_cp r11 (by decide)
  have i13 : Inv (hf_cp (hf_cp (hf_cp (hf_cp (hf_up (hf_up (hf_up (hf_up (hf_up (hf_up φ 17 0 (φ 137 0)) 17 1 (φ 137 1)) 17 2 (φ 137 2)) 17 3 (φ 137 3)) 17 4 (φ 137 4)) 17 5 (φ 137 5)) 138 18 8) 139 19 8) 140 20 6) 141 21 6) := iv_cp i12 (by decide) (by decide +kernel)
  have r13 : Fr [18, 19, 20, 21, 22, 23, 24, 25, 18000, 18001, 18002, 18003, 18004, 18005] φ (hf_cp (hf_cp (hf_cp (hf_cp (hf_up (hf_up (hf_up (hf_up (hf_up (hf_up φ 17 0 (φ 137 0)) 17 1 (φ 137 1)) 17 2 (φ 137 2)) 17 3 (φ 137 3)) 17 4 (φ 137 4)) 17 5 (φ 137 5)) 138 18 8) 139 19 8) 140 20 6) 141 21 6) := fr_cp r12 (by decide)
  have i14 : Inv (hf_cp (hf_cp (hf_cp (hf_cp (hf_cp (hf_up (hf_up (hf_up (hf_up (hf_up (hf_up φ 17 0 (φ 137 0)) 17 1 (φ 137 1)) 17 2 (φ 137 2)) 17 3 (φ 137 3)) 17 4 (φ 137 4)) 17 5 (φ 137 5)) 138 18 8) 139 19 8) 140 20 6) 141 21 6) 142 22 36) := iv_cp i13 (by decide) (by decide +kernel)
  have r14 : Fr [18, 19, 20, 21, 22, 23, 24, 25, 18000, 18001, 18002, 18003, 18004, 18005] φ (hf_cp (hf_cp (hf_cp (hf_cp (hf_cp (hf_up (hf_up (hf_up (hf_up (hf_up (hf_up φ 17 0 (φ 137 0)) 17 1 (φ 137 1)) 17 2 (φ 137 2)) 17 3 (φ 137 3)) 17 4 (φ 137 4)) 17 5 (φ 137 5)) 138 18 8) 139 19 8) 140 20 6) 141 21 6) 142 22 36) := fr_cp r13 (by decide)
  have i15 : Inv (hf_cp (hf_cp (hf_cp (hf_cp (hf_cp (hf_cp (hf_up (hf_up (hf_up (hf_up (hf_up (hf_up φ 17 0 (φ 137 0)) 17 1 (φ 137 1)) 17 2 (φ 137 2)) 17 3 (φ 137 3)) 17 4 (φ 137 4)) 17 5 (φ 137 5)) 138 18 8) 139 19 8) 140 20 6) 141 21 6) 142 22 36) 143 23 6) := iv_cp i14 (by decide) (by decide +kernel)
  have r15 : Fr [18, 19, 20, 21, 22, 23, 24, 25, 18000, 18001, 18002, 18003, 18004, 18005] φ (hf_cp (hf_cp (hf_cp (hf_cp (hf_cp (hf_cp (hf_up (hf_up (hf_up (hf_up (hf_up (hf_up φ 17 0 (φ 137 0)) 17 1 (φ 137 1)) 17 2 (φ 137 2)) 17 3 (φ 137 3)) 17 4 (φ 137 4)) 17 5 (φ 137 5)) 138 18 8) 139 19 8) 140 20 6) 141 21 6) 142 22 36) 143 23 6) := fr_cp r14 (by decide)
  have i16 : Inv (hf_cp (hf_cp (hf_cp (hf_cp (hf_cp (hf_cp (hf_cp (hf_up (hf_up (hf_up (hf_up (hf_up (hf_up φ 17 0 (φ 137 0)) 17 1 (φ 137 1)) 17 2 (φ 137 2)) 17 3 (φ 137 3)) 17 4 (φ 137 4)) 17 5 (φ 137 5)) 138 18 8) 139 19 8) 140 20 6) 141 21 6) 142 22 36) 143 23 6) 144 24 6) := iv_cp i15 (by decide) (by decide +kernel)
  have r16 : Fr [18, 19, 20, 21, 22, 23, 24, 25, 18000, 18001, 18002, 18003, 18004, 18005] φ (hf_cp (hf_cp (hf_cp (hf_cp (hf_cp (hf_cp (hf_cp (hf_up (hf_up (hf_up (hf_up (hf_up (hf_up φ 17 0 (φ 137 0)) 17 1 (φ 137 1)) 17 2 (φ 137 2)) 17 3 (φ 137 3)) 17 4 (φ 137 4)) 17 5 (φ 137 5)) 138 18 8) 139 19 8) 140 20 6) 141 21 6) 142 22 36) 143 23 6) 144 24 6) := fr_cp r15 (by decide)
  have i17 : Inv (hf_cp (hf_cp (hf_cp (hf_cp (hf_cp (hf_cp (hf_cp (hf_cp (hf_up (hf_up (hf_up (hf_up (hf_up (hf_up φ 17 0 (φ 137 0)) 17 1 (φ 137 1)) 17 2 (φ 137 2)) 17 3 (φ 137 3)) 17 4 (φ 137 4)) 17 5 (φ 137 5)) 138 18 8) 139 19 8) 140 20 6) 141 21 6) 142 22 36) 143 23 6) 144 24 6) 145 25 8) := iv_cp i16 (by decide) (by decide +kernel)
  have r17 : Fr [18, 19, 20, 21, 22, 23, 24, 25, 18000, 18001, 18002, 18003, 18004, 18005] φ (hf_cp (hf_cp (hf_cp (hf_cp (hf_cp (hf_cp (hf_cp (hf_cp (hf_up (hf_up (hf_up (hf_up (hf_up (hf_up φ 17 0 (φ 137 0)) 17 1 (φ 137 1)) 17 2 (φ 137 2)) 17 3 (φ 137 3)) 17 4 (φ 137 4)) 17 5 (φ 137 5)) 138 18 8) 139 19 8) 140 20 6) 141 21 6) 142 22 36) 143 23 6) 144 24 6) 145 25 8) := fr_cp r16 (by decide)
  exact hQ (hf_cp (hf_cp (hf_cp (hf_cp (hf_cp (hf_cp (hf_cp (hf_cp (hf_up (hf_up (hf_up (hf_up (hf_up (hf_up φ 17 0 (φ 137 0)) 17 1 (φ 137 1)) 17 2 (φ 137 2)) 17 3 (φ 137 3)) 17 4 (φ 137 4)) 17 5 (φ 137 5)) 138 18 8) 139 19 8) 140 20 6) 141 21 6) 142 22 36) 143 23 6) 144 24 6) 145 25 8) i17 r17 e0
theorem sf_66_17_146_v {sc : List Int} {d : Nat} {φ : hf_F} {x : Nat} {Q : Option jm_V → hf_F → Nat → Prop} 
    (H : Q none (hf_cp (hf_cp (hf_cp (hf_cp (hf_cp (hf_cp (hf_cp (hf_cp (hf_up (hf_up (hf_up (hf_up (hf_up (hf_up φ 17 0 (φ 146 0)) 17 1 (φ 146 1)) 17 2 (φ 146 2)) 17 3 (φ 146 3)) 17 4 (φ 146 4)) 17 5 (φ 146 5)) 147 18 8) 148 19 8) 149 20 6) 150 21 6) 151 22 36) 152 23 6) 153 24 6) 154 25 8) x) :
    hw sc d 66 0 [(0, (2, 17)), (1, (2, 146))] [] φ x Q := by
  refine hw_ald (b := 0) (e := 0) (by decide +kernel) rfl (by decide) ?_
  refine hw_ald (b := 1) (e := 0) (by decide +kernel) rfl (by decide) ?_
  refine hr_gi (w := φ 146 0) (b := 4) (e := 0) 146 rfl (by decide +kernel) rfl ?_
  refine hr_pi (b := 4) (e := 0) 17 rfl (by decide +kernel) ?_
  refine hw_ald (b := 0) (e := 0) (by decide +kernel) rfl (by decide) ?_
  refine hw_ald (b := 1) (e := 0) (by decide +kernel) rfl (by decide) ?_
  refine hr_gi (w := φ 146 1) (b := 4) (e := 1) 146 rfl (by decide +kernel) (hf_up_ne (fun q => absurd q.1 (by decide))) ?_
  refine hr_pi (b := 4) (e := 1) 17 rfl (by decide +kernel) ?_
  refine hw_ald (b := 0) (e := 0) (by decide +kernel) rfl (by decide) ?_
  refine hw_ald (b := 1) (e := 0) (by decide +kernel) rfl (by decide) ?_
  refine hr_gi (w := φ 146 2) (b := 4) (e := 2) 146 rfl (by decide +kernel) ((hf_up_ne (fun q => absurd q.1 (by decide))).trans (hf_up_ne (fun q => absurd q.1 (by decide)))) ?_
  refine hr_pi (b := 4) (e := 2) 17 rfl (by decide +kernel) ?_
  refine hw_ald (b := 0) (e := 0) (by decide +kernel) rfl (by decide) ?_
  refine hw_ald (b := 1) (e := 0) (by decide +kernel) rfl (by decide) ?_
  refine hr_gi (w := φ 146 3) (b := 4) (e := 3) 146 rfl (by decide +kernel) ((hf_up_ne (fun q => absurd q.1 (by decide))).trans ((hf_up_ne (fun q => absurd q.1 (by decide))).trans (hf_up_ne (fun q => absurd q.1 (by decide))))) ?_
  refine hr_pi (b := 4) (e := 3) 17 rfl (by decide +kernel) ?_
  refine hw_ald (b := 0) (e := 0) (by decide +kernel) rfl (by decide) ?_
  refine hw_ald (b := 1) (e := 0) (by decide +kernel) rfl (by decide) ?_
  refine hr_gi (w := φ 146 4) (b := 4) (e := 4) 146 rfl (by decide +kernel) ((hf_up_ne (fun q => absurd q.1 (by decide))).trans ((hf_up_ne (fun q => absurd q.1 (by decide))).trans ((hf_up_ne (fun q => absurd q.1 (by decide))).trans (hf_up_ne (fun q => absurd q.1 (by decide)))))) ?_
  refine hr_pi (b := 4) (e := 4) 17 rfl (by decide +kernel) ?_
  refine hw_ald (b := 0) (e := 0) (by decide +kernel) rfl (by decide) ?_
  refine hw_ald (b := 1) (e := 0) (by decide +kernel) rfl (by decide) ?_
  refine hr_gi (w := φ 146 5) (b := 4) (e := 5) 146 rfl (by decide +kernel) ((hf_up_ne (fun q => absurd q.1 (by decide))).trans ((hf_up_ne (fun q => absurd q.1 (by decide))).trans ((hf_up_ne (fun q => absurd q.1 (by decide))).trans ((hf_up_ne (fun q => absurd q.1 (by decide))).trans (hf_up_ne (fun q => absurd q.1 (by decide))))))) ?_
  refine hr_pi (b := 4) (e := 5) 17 rfl (by decide +kernel) ?_
  refine hw_ald (b := 1) (e := 0) (by decide +kernel) rfl (by decide) ?_
  refine hr_gr (w := 147) (b := 4) (e := 6) 146 rfl (by decide +kernel) ?_
  refine hw_k (c := 0) (b := 0) (e := 1) (by decide +kernel) ?_
  refine hw_ald (b := 0) (e := 0) (by decide +kernel) rfl (by decide) ?_
  refine hr_gr (w := 18) (b := 4) (e := 6) 17 rfl (by decide +kernel) ?_
  refine hw_k (c := 0) (b := 0) (e := 1) (by decide +kernel) ?_
  refine hw_k (c := 8) (b := 1) (e := 2) (by decide +kernel) ?_
  refine hr_cp (a0 := 0) (b0 := 0) (e := 0) 147 18 8 rfl rfl rfl (by decide +kernel) (Nat.le_of_ble_eq_true rfl) ?_
  refine hw_ald (b := 1) (e := 0) (by decide +kernel) rfl (by decide) ?_
  refine hr_gr (w := 148) (b := 4) (e := 7) 146 rfl (by decide +kernel) ?_
  refine hw_k (c := 0) (b := 0) (e := 1) (by decide +kernel) ?_
  refine hw_ald (b := 0) (e := 0) (by decide +kernel) rfl (by decide) ?_
  refine hr_gr (w := 19) (b := 4) (e := 7) 17 rfl (by decide +kernel) ?_
  refine hw_k (c := 0) (b := 0) (e := 1) (by decide +kernel) ?_
  refine hw_k (c := 8) (b := 1) (e := 2) (by decide +kernel) ?_
  refine hr_cp (a0 := 0) (b0 := 0) (e := 0) 148 19 8 rfl rfl rfl (by decide +kernel) (Nat.le_of_ble_eq_true rfl) ?_
  refine hw_ald (b := 1) (e := 0) (by decide +kernel) rfl (by decide) ?_
  refine hr_gr (w := 149) (b := 4) (e := 8) 146 rfl (by decide +kernel) ?_
  refine hw_k (c := 0) (b := 0) (e := 1) (by decide +kernel) ?_
  refine hw_ald (b := 0) (e := 0) (by decide +kernel) rfl (by decide) ?_
  refine hr_gr (w := 20) (b := 4) (e := 8) 17 rfl (by decide +kernel) ?_
  refine hw_k (c := 0) (b := 0) (e := 1) (by decide +kernel) ?_
  refine hw_k (c := 6) (b := 1) (e := 2) (by decide +kernel) ?_
  refine hr_cp (a0 := 0) (b0 := 0) (e := 0) 149 20 6 rfl rfl rfl (by decide +kernel) (Nat.le_of_ble_eq_true rfl) ?_
  refine hw_ald (b := 1) (e := 0) (by decide +kernel) rfl (by decide) ?_
  refine hr_gr (w := 150) (b := 4) (e := 9) 146 rfl (by decide +kernel) ?_
  refine hw_k (c := 0) (b := 0) (e := 1) (by decide +kernel) ?_
  refine hw_ald (b := 0) (e := 0) (by decide +kernel) rfl (by decide) ?_
  refine hr_gr (w := 21) (b := 4) (e := 9) 17 rfl (by decide +kernel) ?_
  refine hw_k (c := 0) (b := 0) (e := 1) (by decide +kernel) ?_
  refine hw_k (c := 6) (b := 1) (e := 2) (by decide +kernel) ?_
  refine hr_cp (a0 := 0) (b0 := 0) (e := 0) 150 21 6 rfl rfl rfl (by decide +kernel) (Nat.le_of_ble_eq_true rfl) ?_
  refine hw_ald (b := 1) (e := 0) (by decide +kernel) rfl (by decide) ?_
  refine hr_gr (w := 151) (b := 4) (e := 10) 146 rfl (by decide +kernel) ?_
  refine hw_k (c := 0) (b := 0) (e := 1) (by decide +kernel) ?_
  refine hw_ald (b := 0) (e := 0) (by decide +kernel) rfl (by decide) ?_
  refine hr_gr (w := 22) (b := 4) (e := 10) 17 rfl (by decide +kernel) ?_
  refine hw_k (c := 0) (b := 0) (e := 1) (by decide +kernel) ?_
  refine hw_k (c := 36) (b := 1) (e := 2) (by decide +kernel) ?_
  refine hr_cp (a0 := 0) (b0 := 0) (e := 0) 151 22 36 rfl rfl rfl (by decide +kernel) (Nat.le_of_ble_eq_true rfl) ?_
  refine hw_ald (b := 1) (e := 0) (by decide +kernel) rfl (by decide) ?_
  refine hr_gr (w := 152) (b := 4) (e := 11) 146 rfl (by decide +kernel) ?_
  refine hw_k (c := 0) (b := 0) (e := 1) (by decide +kernel) ?_
  refine hw_ald (b := 0) (e := 0) (by decide +kernel) rfl (by decide) ?_
  refine hr_gr (w := 23) (b := 4) (e := 11) 17 rfl (by decide +kernel) ?_
  refine hw_k (c := 0) (b := 0) (e := 1) (by decide +kernel) ?_
  refine hw_k (c := 6) (b := 1) (e := 2) (by decide +kernel) ?_
  refine hr_cp (a0 := 0) (b0 := 0) (e := 0) 152 23 6 rfl rfl rfl (by decide +kernel) (Nat.le_of_ble_eq_true rfl) ?_
  refine hw_ald (b := 1) (e := 0) (by decide +kernel) rfl (by decide) ?_
  refine hr_gr (w := 153) (b := 4) (e := 12) 146 rfl (by decide +kernel) ?_
  refine hw_k (c := 0) (b := 0) (e := 1) (by decide +kernel) ?_
  refine hw_ald (b := 0) (e := 0) (by decide +kernel) rfl (by decide) ?_
  refine hr_gr (w := 24) (b := 4) (e := 12) 17 rfl (by decide +kernel) ?_
  refine hw_k (c := 0) (b := 0) (e := 1) (by decide +kernel) ?_
  refine hw_k (c := 6) (b := 1) (e := 2) (by decide +kernel) ?_
  refine hr_cp (a0 := 0) (b0 := 0) (e := 0) 153 24 6 rfl rfl rfl (by decide +kernel) (Nat.le_of_ble_eq_true rfl) ?_
  refine hw_ald (b := 1) (e := 0) (by decide +kernel) rfl (by decide) ?_
  refine hr_gr (w := 154) (b := 4) (e := 13) 146 rfl (by decide +kernel) ?_
  refine hw_k (c := 0) (b := 0) (e := 1) (by decide +kernel) ?_
  refine hw_ald (b := 0) (e := 0) (by decide +kernel) rfl (by decide) ?_
  refine hr_gr (w := 25) (b := 4) (e := 13) 17 rfl (by decide +kernel) ?_
  refine hw_k (c := 0) (b := 0) (e := 1) (by decide +kernel) ?_
  refine hw_k (c := 8) (b := 1) (e := 2) (by decide +kernel) ?_
  refine hr_cp (a0 := 0) (b0 := 0) (e := 0) 154 25 8 rfl rfl rfl (by decide +kernel) (Nat.le_of_ble_eq_true rfl) ?_
  exact hw_vret (a0 := 0) (e := 0) (by decide +kernel) H
theorem sf_66_17_146 {sc : List Int} {d : Nat} {φ : hf_F} {x : Nat} {Q : Option jm_V → hf_F → Nat → Prop}  (hI : Inv φ)  (hQ : ∀ ψ : hf_F, Inv ψ → Fr [18, 19, 20, 21, 22, 23, 24, 25, 18000, 18001, 18002, 18003, 18004, 18005] φ ψ → F_State_copyFrom_17_146 φ = ψ → Q none ψ x) : hw sc d 66 0 [(0, (2, 17)), (1, (2, 146))] [] φ x Q := by
  apply sf_66_17_146_v
  have e0 : F_State_copyFrom_17_146 φ = _ := rfl
  have i1 : Inv (hf_up φ 17 0 (φ 146 0)) := iv_upn hI (by decide) (by decide) (by decide +kernel)
  have r1 : Fr [18, 19, 20, 21, 22, 23, 24, 25, 18000, 18001, 18002, 18003, 18004, 18005] φ (hf_up φ 17 0 (φ 146 0)) := fr_up (fr_rf) (by decide)
  have f2 := iv_at (a := 146) (k := 1) (lo := (-1 : Int)) (u := 7) hI (by decide +kernel)
  have i3 : Inv (hf_up (hf_up φ 17 0 (φ 146 0)) 17 1 (φ 146 1)) := iv_up (lo := (-1 : Int)) (u := 7) i1 (by decide +kernel) (by omega) (by omega)
  have r3 : Fr [18, 19, 20, 21, 22, 23, 24, 25, 18000, 18001, 18002, 18003, 18004, 18005] φ (hf_up (hf_up φ 17 0 (φ 146 0)) 17 1 (φ 146 1)) := fr_up r1 (by decide)
  have f4 := iv_at (a := 146) (k := 2) (lo := (-1 : Int)) (u := 5) hI (by decide +kernel)
  have i5 : Inv (hf_up (hf_up (hf_up φ 17 0 (φ 146 0)) 17 1 (φ 146 1)) 17 2 (φ 146 2)) := iv_up (lo := (-1 : Int)) (u := 5) i3 (by decide +kernel) (by omega) (by omega)
  have r5 : Fr [18, 19, 20, 21, 22, 23, 24, 25, 18000, 18001, 18002, 18003, 18004, 18005] φ (hf_up (hf_up (hf_up φ 17 0 (φ 146 0)) 17 1 (φ 146 1)) 17 2 (φ 146 2)) := fr_up r3 (by decide)
  have f6 := iv_at (a := 146) (k := 3) (lo := (-2147483648 : Int)) (u := 2147483647) hI (by decide +kernel)
  have i7 : Inv (hf_up (hf_up (hf_up (hf_up φ 17 0 (φ 146 0)) 17 1 (φ 146 1)) 17 2 (φ 146 2)) 17 3 (φ 146 3)) := iv_up (lo := (-2147483648 : Int)) (u := 2147483647) i5 (by decide +kernel) (by omega) (by omega)
  have r7 : Fr [18, 19, 20, 21, 22, 23, 24, 25, 18000, 18001, 18002, 18003, 18004, 18005] φ (hf_up (hf_up (hf_up (hf_up φ 17 0 (φ 146 0)) 17 1 (φ 146 1)) 17 2 (φ 146 2)) 17 3 (φ 146 3)) := fr_up r5 (by decide)
  have i8 : Inv (hf_up (hf_up (hf_up (hf_up (hf_up φ 17 0 (φ 146 0)) 17 1 (φ 146 1)) 17 2 (φ 146 2)) 17 3 (φ 146 3)) 17 4 (φ 146 4)) := iv_upn i7 (by decide) (by decide) (by decide +kernel)
  have r8 : Fr [18, 19, 20, 21, 22, 23, 24, 25, 18000, 18001, 18002, 18003, 18004, 18005] φ (hf_up (hf_up (hf_up (hf_up (hf_up φ 17 0 (φ 146 0)) 17 1 (φ 146 1)) 17 2 (φ 146 2)) 17 3 (φ 146 3)) 17 4 (φ 146 4)) := fr_up r7 (by decide)
  have i9 : Inv (hf_up (hf_up (hf_up (hf_up (hf_up (hf_up φ 17 0 (φ 146 0)) 17 1 (φ 146 1)) 17 2 (φ 146 2)) 17 3 (φ 146 3)) 17 4 (φ 146 4)) 17 5 (φ 146 5)) := iv_upn i8 (by decide) (by decide) (by decide +kernel)
  have r9 : Fr [18, 19, 20, 21, 22, 23, 24, 25, 18000, 18001, 18002, 18003, 18004, 18005] φ (hf_up (hf_up (hf_up (hf_up (hf_up (hf_up φ 17 0 (φ 146 0)) 17 1 (φ 146 1)) 17 2 (φ 146 2)) 17 3 (φ 146 3)) 17 4 (φ 146 4)) 17 5 (φ 146 5)) := fr_up r8 (by decide)
  have i10 : Inv (hf_cp (hf_up (hf_up (hf_up (hf_up (hf_up (hf_up φ 17 0 (φ 146 0)) 17 1 (φ 146 1)) 17 2 (φ 146 2)) 17 3 (φ 146 3)) 17 4 (φ 146 4)) 17 5 (φ 146 5)) 147 18 8) := iv_cp i9 (by decide) (by decide +kernel)
  have r10 : Fr [18, 19, 20, 21, 22, 23, 24, 25, 18000, 18001, 18002, 18003, 18004, 18005] φ (hf_cp (hf_up (hf_up (hf_up (hf_up (hf_up (hf_up φ 17 0 (φ 146 0)) 17 1 (φ 146 1)) 17 2 (φ 146 2)) 17 3 (φ 146 3)) 17 4 (φ 146 4)) 17 5 (φ 146 5)) 147 18 8) := fr_cp r9 (by decide)
  have i11 : Inv (hf_cp (hf_cp (hf_up (hf_up (hf_up (hf_up (hf_up (hf_up φ 17 0 (φ 146 0)) 17 1 (φ 146 1)) 17 2 (φ 146 2)) 17 3 (φ 146 3)) 17 4 (φ 146 4)) 17 5 (φ 146 5)) 147 18 8) 148 19 8) := iv_cp i10 (by decide) (by decide +kernel)
  have r11 : Fr [18, 19, 20, 21, 22, 23, 24, 25, 18000, 18001, 18002, 18003, 18004, 18005] φ (hf_cp (hf_cp (hf_up (hf_up (hf_up (hf_up (hf_up (hf_up φ 17 0 (φ 146 0)) 17 1 (φ 146 1)) 17 2 (φ 146 2)) 17 3 (φ 146 3)) 17 4 (φ 146 4)) 17 5 (φ 146 5)) 147 18 8) 148 19 8) := fr_cp r10 (by decide)
  have i12 : Inv (hf_cp (hf_cp (hf_cp (hf_up (hf_up (hf_up (hf_up (hf_up (hf_up φ 17 0 (φ 146 0)) 17 1 (φ 146 1)) 17 2 (φ 146 2)) 17 3 (φ 146 3)) 17 4 (φ 146 4)) 17 5 (φ 146 5)) 147 18 8) 148 19 8) 149 20 6) := iv_cp i11 (by decide) (by decide +kernel)
  have r12 : Fr [18, 19, 20, 21, 22, 23, 24, 25, 18000, 18001, 18002, 18003, 18004, 18005] φ (hf_cp (hf_cp (hf_cp (hf_up (hf_up (hf_up (hf_up (hf_up (hf_up φ 17 0 (φ 146 0)) 17 1 (φ 146 1)) 17 2 (φ 146 2)) 17 3 (φ 146 3)) 17 4 (φ 146 4)) 17 5 (φ 146 5)) 147 18 8) 148 19 8) 149 20 6) := fr_cp r11 (by decide)
  have i13 : Inv (hf_cp (hf_cp (hf_cp (hf_cp (hf_up (hf_up (hf_up (hf_up (hf_up (hf_up φ 17 0 (φ 146 0)) 17 1 (φ 146 1)) 17 2 (φ 146 2)) 17 3 (φ 146 3)) 17 4 (φ 146 4)) 17 5 (φ 146 5)) 147 18 8) 148 19 8) 149 20 6) 150 21 6) := iv_cp i12 (by decide) (by decide +kernel)
  have r13 : Fr [18, 19, 20, 21, 22, 23, 24, 25, 18000, 18001, 18002, 18003, 18004, 18005] φ (hf_cp (hf_cp (hf_cp (hf_cp (hf_up (hf_up (hf_up (hf_up (hf_up (hf_up φ 17 0 (φ 146 0)) 17 1 (φ 146 1)) 17 2 (φ 146 2)) 17 3 (φ 146 3)) 17 4 (φ 146 4)) 17 5 (φ 146 5)) 147 18 8) 148 19 8) 149 20 6) 150 21 6) := fr_cp r12 (by decide)
  have i14 : Inv (hf_cp (hf_cp (hf_cp (hf_cp (hf_cp (hf_up (hf_up (hf_up (hf_up (hf_up (hf_up φ 17 0 (φ 146 0)) 17 1 (φ 146 1)) 17 2 (φ 146 2)) 17 3 (φ 146 3)) 17 4 (φ 146 4)) 17 5 (φ 146 5)) 147 18 8) 148 19 8) 149 20 6) 150 21 6) 151 22 36) := iv_cp i13 (by decide) (by decide +kernel)
  have r14 : Fr [18, 19, 20, 21, 22, 23, 24, 25, 18000, 18001, 18002, 18003, 18004, 18005] φ (hf_cp (hf_cp (hf_cp (hf_cp (hf_cp (hf_up (hf_up (hf_up (hf_up (hf_up (hf_up φ 17 0 (φ 146 0)) 17 1 (φ 146 1)) 17 2 (φ 146 2)) 17 3 (φ 146 3)) 17 4 (φ 146 4)) 17 5 (φ 146 5)) 147 18 8) 148 19 8) 149 20 6) 150 21 6) 151 22 36) := fr_cp r13 (by decide)
  have i15 : Inv (hf_cp (hf_cp (hf_cp (hf_cp (hf_cp (hf_cp (hf_up (hf_up (hf_up (hf_up (hf_up (hf_up φ 17 0 (φ 146 0)) 17 1 (φ 146 1)) 17 2 (φ 146 2)) 17 3 (φ 146 3)) 17 4 (φ 146 4)) 17 5 (φ 146 5)) 147 18 8) 148 19 8) 149 20 6) 150 21 6) 151 22 36) 152 23 6) := iv_cp i14 (by decide) (by decide +kernel)
  have r15 : Fr [18, 19, 20, 21, 22, 23, 24, 25, 18000, 18001, 18002, 18003, 18004, 18005] φ (hf_cp (hf_cp (hf_cp (hf_cp (hf_cp (hf_cp (hf_up (hf_up (hf_up (hf_up (hf_up (hf_up φ 17 0 (φ 146 0)) 17 1 (φ 146 1)) 17 2 (φ 146 2)) 17 3 (φ 146 3)) 17 4 (φ 146 4)) 17 5 (φ 146 5)) 147 18 8) 148 19 8) 149 20 6) 150 21 6) 151 22 36) 152 23 6) := fr_cp r14 (by decide)
  have i16 : Inv (hf_cp (hf_cp (hf_cp (hf_cp (hf_cp (hf_cp (hf_cp (hf_up (hf_up (hf_up (hf_up (hf_up (hf_up φ 17 0 (φ 146 0)) 17 1 (φ 146 1)) 17 2 (φ 146 2)) 17 3 (φ 146 3)) 17 4 (φ 146 4)) 17 5 (φ 146 5)) 147 18 8) 148 19 8) 149 20 6) 150 21 6) 151 22 36) 152 23 6) 153 24 6) := iv_cp i15 (by decide) (by decide +kernel)
  have r16 : Fr [18, 19, 20, 21, 22, 23, 24, 25, 18000, 18001, 18002, 18003, 18004, 18005] φ (hf_cp (hf_cp (hf_cp (hf_cp (hf_cp (hf_cp (hf_cp (hf_up (hf_up (hf_up (hf_up (hf_up (hf_up φ 17 0 (φ 146 0)) 17 1 (φ 146 1)) 17 2 (φ 146 2)) 17 3 (φ 146 3)) 17 4 (φ 146 4)) 17 5 (φ 146 5)) 147 18 8) 148 19 8) 149 20 6) 150 21 6) 151 22 36) 152 23 6) 153 24 6) := fr_cp r15 (by decide)
  have i17 : Inv (hf_cp (hf_cp (hf_cp (hf_cp (hf_cp (hf_cp (hf_cp (hf_cp (hf_up (hf_up (hf_up (hf_up (hf_up (hf_up φ 17 0 (φ 146 0)) 17 1 (φ 146 1)) 17 2 (φ 146 2)) 17 3 (φ 146 3)) 17 4 (φ 146 4)) 17 5 (φ 146 5)) 147 18 8) 148 19 8) 149 20 6) 150 21 6) 151 22 36) 152 23 6) 153 24 6) 154 25 8) := iv_cp i16 (by decide) (by decide +kernel)
  have r17 : Fr [18, 19, 20, 21, 22, 23, 24, 25, 18000, 18001, 18002, 18003, 18004, 18005] φ (hf_cp (hf_cp (hf_cp (hf_cp (hf_cp (hf_cp (hf_cp (hf_cp (hf_up (hf_up (hf_up (hf_up (hf_up (hf_up φ 17 0 (φ 146 0)) 17 1 (φ 146 1)) 17 2 (φ 146 2)) 17 3 (φ 146 3)) 17 4 (φ 146 4)) 17 5 (φ 146 5)) 147 18 8) 148 19 8) 149 20 6) 150 21 6) 151 22 36) 152 23 6) 153 24 6) 154 25 8) := fr_cp r16 (by decide)
  exact hQ (hf_cp (hf_cp (hf_cp (hf_cp (hf_cp (hf_cp (hf_cp (hf_cp (hf_up (hf_up (hf_up (hf_up (hf_up (hf_up φ 17 0 (φ 146 0)) 17 1 (φ 146 1)) 17 2 (φ 146 2)) 17 3 (φ 146 3)) 17 4 (φ 146 4)) 17 5 (φ 146 5)) 147 18 8) 148 19 8) 149 20 6) 150 21 6) 151 22 36) 152 23 6) 153 24 6) 154 25 8) i17 r17 e0
theorem sf_66_17_155_v {sc : List Int} {d : Nat} {φ : hf_F} {x : Nat} {Q : Option jm_V → hf_F → Nat → Prop} 
    (H : Q none (hf_cp (hf_cp (hf_cp (hf_cp (hf_cp (hf_cp (hf_cp (hf_cp (hf_up (hf_up (hf_up (hf_up (hf_up (hf_up φ 17 0 (φ 155 0)) 17 1 (φ 155 1)) 17 2 (φ 155 2)) 17 3 (φ 155 3)) 17 4 (φ 155 4)) 17 5 (φ 155 5)) 156 18 8) 157 19 8) 158 20 6) 159 21 6) 160 22 36) 161 23 6) 162 24 6) 163 25 8) x) :
    hw sc d 66 0 [(0, (2, 17)), (1, (2, 155))] [] φ x Q := by
  refine hw_ald (b := 0) (e := 0) (by decide +kernel) rfl (by decide) ?_
  refine hw_ald (b := 1) (e := 0) (by decide +kernel) rfl (by decide) ?_
  refine hr_gi (w := φ 155 0) (b := 4) (e := 0) 155 rfl (by decide +kernel) rfl ?_
  refine hr_pi (b := 4) (e := 0) 17 rfl (by decide +kernel) ?_
  refine hw_ald (b := 0) (e := 0) (by decide +kernel) rfl (by decide) ?_
  refine hw_ald (b := 1) (e := 0) (by decide +kernel) rfl (by decide) ?_
  refine hr_gi (w := φ 155 1) (b := 4) (e := 1) 155 rfl (by decide +kernel) (hf_up_ne (fun q => absurd q.1 (by decide))) ?_
  refine hr_pi (b := 4) (e := 1) 17 rfl (by decide +kernel) ?_
  refine hw_ald (b := 0) (e := 0) (by decide +kernel) rfl (by decide) ?_
  refine hw_ald (b := 1) (e := 0) (by decide +kernel) rfl (by decide) ?_
  refine hr_gi (w := φ 155 2) (b := 4) (e := 2) 155 rfl (by decide +kernel) ((hf_up_ne (fun q => absurd q.1 (by decide))).trans (hf_up_ne (fun q => absurd q.1 (by decide)))) ?_
  refine hr_pi (b := 4) (e := 2) 17 rfl (by decide +kernel) ?_
  refine hw_ald (b := 0) (e := 0) (by decide +kernel) rfl (by decide) ?_
  refine hw_ald (b := 1) (e := 0) (by decide +kernel) rfl (by decide) ?_
  refine hr_gi (w := φ 155 3) (b := 4) (e := 3) 155 rfl (by decide +kernel) ((hf_up_ne (fun q => absurd q.1 (by decide))).trans ((hf_up_ne (fun q => absurd q.1 (by decide))).trans (hf_up_ne (fun q => absurd q.1 (by decide))))) ?_
  refine hr_pi (b := 4) (e := 3) 17 rfl (by decide +kernel) ?_
  refine hw_ald (b := 0) (e := 0) (by decide +kernel) rfl (by decide) ?_
  refine hw_ald (b := 1) (e := 0) (by decide +kernel) rfl (by decide) ?_
  refine hr_gi (w := φ 155 4) (b := 4) (e := 4) 155 rfl (by decide +kernel) ((hf_up_ne (fun q => absurd q.1 (by decide))).trans ((hf_up_ne (fun q => absurd q.1 (by decide))).trans ((hf_up_ne (fun q => absurd q.1 (by decide))).trans (hf_up_ne (fun q => absurd q.1 (by decide)))))) ?_
  refine hr_pi (b := 4) (e := 4) 17 rfl (by decide +kernel) ?_
  refine hw_ald (b := 0) (e := 0) (by decide +kernel) rfl (by decide) ?_
  refine hw_ald (b := 1) (e := 0) (by decide +kernel) rfl (by decide) ?_
  refine hr_gi (w := φ 155 5) (b := 4) (e := 5) 155 rfl (by decide +kernel) ((hf_up_ne (fun q => absurd q.1 (by decide))).trans ((hf_up_ne (fun q => absurd q.1 (by decide))).trans ((hf_up_ne (fun q => absurd q.1 (by decide))).trans ((hf_up_ne (fun q => absurd q.1 (by decide))).trans (hf_up_ne (fun q => absurd q.1 (by decide))))))) ?_
  refine hr_pi (b := 4) (e := 5) 17 rfl (by decide +kernel) ?_
  refine hw_ald (b := 1) (e := 0) (by decide +kernel) rfl (by decide) ?_
  refine hr_gr (w := 156) (b := 4) (e := 6) 155 rfl (by decide +kernel) ?_
  refine hw_k (c := 0) (b := 0) (e := 1) (by decide +kernel) ?_
  refine hw_ald (b := 0) (e := 0) (by decide +kernel) rfl (by decide) ?_
  refine hr_gr (w := 18) (b := 4) (e := 6) 17 rfl (by decide +kernel) ?_
  refine hw_k (c := 0) (b := 0) (e := 1) (by decide +kernel) ?_
  refine hw_k (c := 8) (b := 1) (e := 2) (by decide +kernel) ?_
  refine hr_cp (a0 := 0) (b0 := 0) (e := 0) 156 18 8 rfl rfl rfl (by decide +kernel) (Nat.le_of_ble_eq_true rfl) ?_
  refine hw_ald (b := 1) (e := 0) (by decide +kernel) rfl (by decide) ?_
  refine hr_gr (w := 157) (b := 4) (e := 7) 155 rfl (by decide +kernel) ?_
  refine hw_k (c := 0) (b := 0) (e := 1) (by decide +kernel) ?_
  refine hw_ald (b := 0) (e := 0) (by decide +kernel) rfl (by decide) ?_
  refine hr_gr (w := 19) (b := 4) (e := 7) 17 rfl (by decide +kernel) ?_
  refine hw_k (c := 0) (b := 0) (e := 1) (by decide +kernel) ?_
  refine hw_k (c := 8) (b := 1) (e := 2) (by decide +kernel) ?_
  refine hr_cp (a0 := 0) (b0 := 0) (e := 0) 157 19 8 rfl rfl rfl (by decide +kernel) (Nat.le_of_ble_eq_true rfl) ?_
  refine hw_ald (b := 1) (e := 0) (by decide +kernel) rfl (by decide) ?_
  refine hr_gr (w := 158) (b := 4) (e := 8) 155 rfl (by decide +kernel) ?_
  refine hw_k (c := 0) (b := 0) (e := 1) (by decide +kernel) ?_
  refine hw_ald (b := 0) (e := 0) (by decide +kernel) rfl (by decide) ?_
  refine hr_gr (w := 20) (b := 4) (e := 8) 17 rfl (by decide +kernel) ?_
  refine hw_k (c := 0) (b := 0) (e := 1) (by decide +kernel) ?_
  refine hw_k (c := 6) (b := 1) (e := 2) (by decide +kernel) ?_
  refine hr_cp (a0 := 0) (b0 := 0) (e := 0) 158 20 6 rfl rfl rfl (by decide +kernel) (Nat.le_of_ble_eq_true rfl) ?_
  refine hw_ald (b := 1) (e := 0) (by decide +kernel) rfl (by decide) ?_
  refine hr_gr (w := 159) (b := 4) (e := 9) 155 rfl (by decide +kernel) ?_
  refine hw_k (c := 0) (b := 0) (e := 1) (by decide +kernel) ?_
  refine hw_ald (b := 0) (e := 0) (by decide +kernel) rfl (by decide) ?_
  refine hr_gr (w := 21) (b := 4) (e := 9) 17 rfl (by decide +kernel) ?_
  refine hw_k (c := 0) (b := 0) (e := 1) (by decide +kernel) ?_
  refine hw_k (c := 6) (b := 1) (e := 2) (by decide +kernel) ?_
  refine hr_cp (a0 := 0) (b0 := 0) (e := 0) 159 21 6 rfl rfl rfl (by decide +kernel) (Nat.le_of_ble_eq_true rfl) ?_
  refine hw_ald (b := 1) (e := 0) (by decide +kernel) rfl (by decide) ?_
  refine hr_gr (w := 160) (b := 4) (e := 10) 155 rfl (by decide +kernel) ?_
  refine hw_k (c := 0) (b := 0) (e := 1) (by decide +kernel) ?_
  refine hw_ald (b := 0) (e := 0) (by decide +kernel) rfl (by decide) ?_
  refine hr_gr (w := 22) (b := 4) (e := 10) 17 rfl (by decide +kernel) ?_
  refine hw_k (c := 0) (b := 0) (e := 1) (by decide +kernel) ?_
  refine hw_k (c := 36) (b := 1) (e := 2) (by decide +kernel) ?_
  refine hr_cp (a0 := 0) (b0 := 0) (e := 0) 160 22 36 rfl rfl rfl (by decide +kernel) (Nat.le_of_ble_eq_true rfl) ?_
  refine hw_ald (b := 1) (e := 0) (by decide +kernel) rfl (by decide) ?_
  refine hr_gr (w := 161) (b := 4) (e := 11) 155 rfl (by decide +kernel) ?_
  refine hw_k (c := 0) (b := 0) (e := 1) (by decide +kernel) ?_
  refine hw_ald (b := 0) (e := 0) (by decide +kernel) rfl (by decide) ?_
  refine hr_gr (w := 23) (b := 4) (e := 11) 17 rfl (by decide +kernel) ?_
  refine hw_k (c := 0) (b := 0) (e := 1) (by decide +kernel) ?_
  refine hw_k (c := 6) (b := 1) (e := 2) (by decide +kernel) ?_
  refine hr_cp (a0 := 0) (b0 := 0) (e := 0) 161 23 6 rfl rfl rfl (by decide +kernel) (Nat.le_of_ble_eq_true rfl) ?_
  refine hw_ald (b := 1) (e := 0) (by decide +kernel) rfl (by decide) ?_
  refine hr_gr (w := 162) (b := 4) (e := 12) 155 rfl (by decide +kernel) ?_
  refine hw_k (c := 0) (b := 0) (e := 1) (by decide +kernel) ?_
  refine hw_ald (b := 0) (e := 0) (by decide +kernel) rfl (by decide) ?_
  refine hr_gr (w := 24) (b := 4) (e := 12) 17 rfl (by decide +kernel) ?_
  refine hw_k (c := 0) (b := 0) (e := 1) (by decide +kernel) ?_
  refine hw_k (c := 6) (b := 1) (e := 2) (by decide +kernel) ?_
  refine hr_cp (a0 := 0) (b0 := 0) (e := 0) 162 24 6 rfl rfl rfl (by decide +kernel) (Nat.le_of_ble_eq_true rfl) ?_
  refine hw_ald (b := 1) (e := 0) (by decide +kernel) rfl (by decide) ?_
  refine hr_gr (w := 163) (b := 4) (e := 13) 155 rfl (by decide +kernel) ?_
  refine hw_k (c := 0) (b := 0) (e := 1) (by decide +kernel) ?_
  refine hw_ald (b := 0) (e := 0) (by decide +kernel) rfl (by decide) ?_
  refine hr_gr (w := 25) (b := 4) (e := 13) 17 rfl (by decide +kernel) ?_
  refine hw_k (c := 0) (b := 0) (e := 1) (by decide +kernel) ?_
  refine hw_k (c := 8) (b := 1) (e := 2) (by decide +kernel) ?_
  refine hr_cp (a0 := 0) (b0 := 0) (e := 0) 163 25 8 rfl rfl rfl (by decide +kernel) (Nat.le_of_ble_eq_true rfl) ?_
  exact hw_vret (a0 := 0) (e := 0) (by decide +kernel) H
theorem sf_66_17_155 {sc : List Int} {d : Nat} {φ : hf_F} {x : Nat} {Q : Option jm_V → hf_F → Nat → Prop}  (hI : Inv φ)  (hQ : ∀ ψ : hf_F, Inv ψ → Fr [18, 19, 20, 21, 22, 23, 24, 25, 18000, 18001, 18002, 18003, 18004, 18005] φ ψ → F_State_copyFrom_17_155 φ = ψ → Q none ψ x) : hw sc d 66 0 [(0, (2, 17)), (1, (2, 155))] [] φ x Q := by
  apply sf_66_17_155_v
  have e0 : F_State_copyFrom_17_155 φ = _ := rfl
  have i1 : Inv (hf_up φ 17 0 (φ 155 0)) := iv_upn hI (by decide) (by decide) (by decide +kernel)
  have r1 : Fr [18, 19, 20, 21, 22, 23, 24, 25, 18000, 18001, 18002, 18003, 18004, 18005] φ (hf_up φ 17 0 (φ 155 0)) := fr_up (fr_rf) (by decide)
  have f2 := iv_at (a := 155) (k := 1) (lo := (-1 : Int)) (u := 7) hI (by decide +kernel)
  have i3 : Inv (hf_up (hf_up φ 17 0 (φ 155 0)) 17 1 (φ 155 1)) := iv_up (lo := (-1 : Int)) (u := 7) i1 (by decide +kernel) (by omega) (by omega)
  have r3 : Fr [18, 19, 20, 21, 22, 23, 24, 25, 18000, 18001, 18002, 18003, 18004, 18005] φ (hf_up (hf_up φ 17 0 (φ 155 0)) 17 1 (φ 155 1)) := fr_up r1 (by decide)
  have f4 := iv_at (a := 155) (k := 2) (lo := (-1 : Int)) (u := 5) hI (by decide +kernel)
  have i5 : Inv (hf_up (hf_up (hf_up φ 17 0 (φ 155 0)) 17 1 (φ 155 1)) 17 2 (φ 155 2)) := iv_up (lo := (-1 : Int)) (u := 5) i3 (by decide +kernel) (by omega) (by omega)
  have r5 : Fr [18, 19, 20, 21, 22, 23, 24, 25, 18000, 18001, 18002, 18003, 18004, 18005] φ (hf_up (hf_up (hf_up φ 17 0 (φ 155 0)) 17 1 (φ 155 1)) 17 2 (φ 155 2)) := fr_up r3 (by decide)
  have f6 := iv_at (a := 155) (k := 3) (lo := (-2147483648 : Int)) (u := 2147483647) hI (by decide +kernel)
  have i7 : Inv (hf_up (hf_up (hf_up (hf_up φ 17 0 (φ 155 0)) 17 1 (φ 155 1)) 17 2 (φ 155 2)) 17 3 (φ 155 3)) := iv_up (lo := (-2147483648 : Int)) (u := 2147483647) i5 (by decide +kernel) (by omega) (by omega)
  have r7 : Fr [18, 19, 20, 21, 22, 23, 24, 25, 18000, 18001, 18002, 18003, 18004, 18005] φ (hf_up (hf_up (hf_up (hf_up φ 17 0 (φ 155 0)) 17 1 (φ 155 1)) 17 2 (φ 155 2)) 17 3 (φ 155 3)) := fr_up r5 (by decide)
  have i8 : Inv (hf_up (hf_up (hf_up (hf_up (hf_up φ 17 0 (φ 155 0)) 17 1 (φ 155 1)) 17 2 (φ 155 2)) 17 3 (φ 155 3)) 17 4 (φ 155 4)) := iv_upn i7 (by decide) (by decide) (by decide +kernel)
  have r8 : Fr [18, 19, 20, 21, 22, 23, 24, 25, 18000, 18001, 18002, 18003, 18004, 18005] φ (hf_up (hf_up (hf_up (hf_up (hf_up φ 17 0 (φ 155 0)) 17 1 (φ 155 1)) 17 2 (φ 155 2)) 17 3 (φ 155 3)) 17 4 (φ 155 4)) := fr_up r7 (by decide)
  have i9 : Inv (hf_up (hf_up (hf_up (hf_up (hf_up (hf_up φ 17 0 (φ 155 0)) 17 1 (φ 155 1)) 17 2 (φ 155 2)) 17 3 (φ 155 3)) 17 4 (φ 155 4)) 17 5 (φ 155 5)) := iv_upn i8 (by decide) (by decide) (by decide +kernel)
  have r9 : Fr [18, 19, 20, 21, 22, 23, 24, 25, 18000, 18001, 18002, 18003, 18004, 18005] φ (hf_up (hf_up (hf_up (hf_up (hf_up (hf_up φ 17 0 (φ 155 0)) 17 1 (φ 155 1)) 17 2 (φ 155 2)) 17 3 (φ 155 3)) 17 4 (φ 155 4)) 17 5 (φ 155 5)) := fr_up r8 (by decide)
  have i10 : Inv (hf_cp (hf_up (hf_up (hf_up (hf_up (hf_up (hf_up φ 17 0 (φ 155 0)) 17 1 (φ 155 1)) 17 2 (φ 155 2)) 17 3 (φ 155 3)) 17 4 (φ 155 4)) 17 5 (φ 155 5)) 156 18 8) := iv_cp i9 (by decide) (by decide +kernel)
  have r10 : Fr [18, 19, 20, 21, 22, 23, 24, 25, 18000, 18001, 18002, 18003, 18004, 18005] φ (hf_cp (hf_up (hf_up (hf_up (hf_up (hf_up (hf_up φ 17 0 (φ 155 0)) 17 1 (φ 155 1)) 17 2 (φ 155 2)) 17 3 (φ 155 3)) 17 4 (φ 155 4)) 17 5 (φ 155 5)) 156 18 8) := fr_cp r9 (by decide)
  have i11 : Inv (hf_cp (hf_cp (hf_up (hf_up (hf_up (hf_up (hf_up (hf_up φ 17 0 (φ 155 0)) 17 1 (φ 155 1)) 17 2 (φ 155 2)) 17 3 (φ 155 3)) 17 4 (φ 155 4)) 17 5 (φ 155 5)) 156 18 8) 157 19 8) := iv_cp i10 (by decide) (by decide +kernel)
  have r11 : Fr [18, 19, 20, 21, 22, 23, 24, 25, 18000, 18001, 18002, 18003, 18004, 18005] φ (hf_cp (hf_cp (hf_up (hf_up (hf_up (hf_up (hf_up (hf_up φ 17 0 (φ 155 0)) 17 1 (φ 155 1)) 17 2 (φ 155 2)) 17 3 (φ 155 3)) 17 4 (φ 155 4)) 17 5 (φ 155 5)) 156 18 8) 157 19 8) := fr_cp r10 (by decide)
  have i12 : Inv (hf_cp (hf_cp (hf_cp (hf_up (hf_up (hf_up (hf_up (hf_up (hf_up φ 17 0 (φ 155 0)) 17 1 (φ 155 1)) 17 2 (φ 155 2)) 17 3 (φ 155 3)) 17 4 (φ 155 4)) 17 5 (φ 155 5)) 156 18 8) 157 19 8) 158 20 6) := iv_cp i11 (by decide) (by decide +kernel)
  have r12 : Fr [18, 19, 20, 21, 22, 23, 24, 25, 18000, 18001, 18002, 18003, 18004, 18005] φ (hf_cp (hf_cp (hf_cp (hf_up (hf_up (hf_up (hf_up (hf_up (hf_up φ 17 0 (φ 155 0)) 17 1 (φ 155 1)) 17 2 (φ 155 2)) 17 3 (φ 155 3)) 17 4 (φ 155 4)) 17 5 (φ 155 5)) 156 18 8) 157 19 8) 158 20 6) := fr_cp r11 (by decide)
  have i13 : Inv (hf_cp (hf_cp (hf_cp (hf_cp (hf_up (hf_up (hf_up (hf_up (hf_up (hf_up φ 17 0 (φ 155 0)) 17 1 (φ 155 1)) 17 2 (φ 155 2)) 17 3 (φ 155 3)) 17 4 (φ 155 4)) 17 5 (φ 155 5)) 156 18 8) 157 19 8) 158 20 6) 159 21 6) := iv_cp i12 (by decide) (by decide +kernel)
  have r13 : Fr [18, 19, 20, 21, 22, 23, 24, 25, 18000, 18001, 18002, 18003, 18004, 18005] φ (hf_cp (hf_cp (hf_cp (hf_cp (hf_up (hf_up (hf_up (hf_up (hf_up (hf_up φ 17 0 (φ 155 0)) 17 1 (φ 155 1)) 17 2 (φ 155 2)) 17 3 (φ 155 3)) 17 4 (φ 155 4)) 17 5 (φ 155 5)) 156 18 8) 157 19 8) 158 20 6) 159 21 6) := fr_cp r12 (by decide)
  have i14 : Inv (hf_cp (hf_cp (hf_cp (hf_cp (hf_cp (hf_up (hf_up (hf_up (hf_up (hf_up (hf_up φ 17 0 (φ 155 0)) 17 1 (φ 155 1)) 17 2 (φ 155 2)) 17 3 (φ 155 3)) 17 4 (φ 155 4)) 17 5 (φ 155 5)) 156 18 8) 157 19 8) 158 20 6) 159 21 6) 160 22 36) := iv_cp i13 (by decide) (by decide +kernel)
  have r14 : Fr [18, 19, 20, 21, 22, 23, 24, 25, 18000, 18001, 18002, 18003, 18004, 18005] φ (hf_cp (hf_cp (hf_cp (hf_cp (hf_cp (hf_up (hf_up (hf_up (hf_up (hf_up (hf_up φ 17 0 (φ 155 0)) 17 1 (φ 155 1)) 17 2 (φ 155 2)) 17 3 (φ 155 3)) 17 4 (φ 155 4)) 17 5 (φ 155 5)) 156 18 8) 157 19 8) 158 20 6) 159 21 6) 160 22 36) := fr_cp r13 (by decide)
  have i15 : Inv (hf_cp (hf_cp (hf_cp (hf_cp (hf_cp (hf_cp (hf_up (hf_up (hf_up (hf_up (hf_up (hf_up φ 17 0 (φ 155 0)) 17 1 (φ 155 1)) 17 2 (φ 155 2)) 17 3 (φ 155 3)) 17 4 (φ 155 4)) 17 5 (φ 155 5)) 156 18 8) 157 19 8) 158 20 6) 159 21 6) 160 22 36) 161 23 6) := iv_cp i14 (by decide) (by decide +kernel)
  have r15 : Fr [18, 19, 20, 21, 22, 23, 24, 25, 18000, 18001, 18002, 18003, 18004, 18005] φ (hf_cp (hf_cp (hf_cp (hf_cp (hf_cp (hf_cp (hf_up (hf_up (hf_up (hf_up (hf_up (hf_up φ 17 0 (φ 155 0)) 17 1 (φ 155 1)) 17 2 (φ 155 2)) 17 3 (φ 155 3)) 17 4 (φ 155 4)) 17 5 (φ 155 5)) 156 18 8) 157 19 8) 158 20 6) 159 21 6) 160 22 36) 161 23 6) := fr_cp r14 (by decide)
  have i16 : Inv (hf_cp (hf_cp (hf_cp (hf_cp (hf_cp (hf_cp (hf_cp (hf_up (hf_up (hf_up (hf_up (hf_up (hf_up φ 17 0 (φ 155 0)) 17 1 (φ 155 1)) 17 2 (φ 155 2)) 17 3 (φ 155 3)) 17 4 (φ 155 4)) 17 5 (φ 155 5)) 156 18 8) 157 19 8) 158 20 6) 159 21 6) 160 22 36) 161 23 6) 162 24 6) := iv_cp i15 (by decide) (by decide +kernel)
  have r16 : Fr [18, 19, 20, 21, 22, 23, 24, 25, 18000, 18001, 18002, 18003, 18004, 18005] φ (hf_cp (hf_cp (hf_cp (hf_cp (hf_cp (hf_cp (hf_cp (hf_up (hf_up (hf_up (hf_up (hf_up (hf_up φ 17 0 (φ 155 0)) 17 1 (φ 155 1)) 17 2 (φ 155 2)) 17 3 (φ 155 3)) 17 4 (φ 155 4)) 17 5 (φ 155 5)) 156 18 8) 157 19 8) 158 20 6) 159 21 6) 160 22 36) 161 23 6) 162 24 6) := fr_cp r15 (by decide)
  have i17 : Inv (hf_cp (hf_cp (hf_cp (hf_cp (hf_cp (hf_cp (hf_cp (hf_cp (hf_up (hf_up (hf_up (hf_up (hf_up (hf_up φ 17 0 (φ 155 0)) 17 1 (φ 155 1)) 17 2 (φ 155 2)) 17 3 (φ 155 3)) 17 4 (φ 155 4)) 17 5 (φ 155 5)) 156 18 8) 157 19 8) 158 20 6) 159 21 6) 160 22 36) 161 23 6) 162 24 6) 163 25 8) := iv_cp i16 (by decide) (by decide +kernel)
  have r17 : Fr [18, 19, 20, 21, 22, 23, 24, 25, 18000, 18001, 18002, 18003, 18004, 18005] φ (hf_cp (hf_cp (hf_cp (hf_cp (hf_cp (hf_cp (hf_cp (hf_cp (hf_up (hf_up (hf_up (hf_up (hf_up (hf_up φ 17 0 (φ 155 0)) 17 1 (φ 155 1)) 17 2 (φ 155 2)) 17 3 (φ 155 3)) 17 4 (φ 155 4)) 17 5 (φ 155 5)) 156 18 8) 157 19 8) 158 20 6) 159 21 6) 160 22 36) 161 23 6) 162 24 6) 163 25 8) := fr_cp r16 (by decide)
  exact hQ (hf_cp (hf_cp (hf_cp (hf_cp (hf_cp (hf_cp (hf_cp (hf_cp (hf_up (hf_up (hf_up (hf_up (hf_up (hf_up φ 17 0 (φ 155 0)) 17 1 (φ 155 1)) 17 2 (φ 155 2)) 17 3 (φ 155 3)) 17 4 (φ 155 4)) 17 5 (φ 155 5)) 156 18 8) 157 19 8) 158 20 6) 159 21 6) 160 22 36) 161 23 6) 162 24 6) 163 25 8) i17 r17 e0
theorem sf_66_17_164_v {sc : List Int} {d : Nat} {φ : hf_F} {x : Nat} {Q : Option jm_V → hf_F → Nat → Prop} 
    (H : Q none (hf_cp (hf_cp (hf_cp (hf_cp (hf_cp (hf_cp (hf_cp (hf_cp (hf_up (hf_up (hf_up (hf_up (hf_up (hf_up φ 17 0 (φ 164 0)) 17 1 (φ 164 1)) 17 2 (φ 164 2)) 17 3 (φ 164 3)) 17 4 (φ 164 4)) 17 5 (φ 164 5)) 165 18 8) 166 19 8) 167 20 6) 168 21 6) 169 22 36) 170 23 6) 171 24 6) 172 25 8) x) :
    hw sc d 66 0 [(0, (2, 17)), (1, (2, 164))] [] φ x Q := by
  refine hw_ald (b := 0) (e := 0) (by decide +kernel) rfl (by decide) ?_
  refine hw_ald (b := 1) (e := 0) (by decide +kernel) rfl (by decide) ?_
  refine hr_gi (w := φ 164 0) (b := 4) (e := 0) 164 rfl (by decide +kernel) rfl ?_
  refine hr_pi (b := 4) (e := 0) 17 rfl (by decide +kernel) ?_
  refine hw_ald (b := 0) (e := 0) (by decide +kernel) rfl (by decide) ?_
  refine hw_ald (b := 1) (e := 0) (by decide +kernel) rfl (by decide) ?_
  refine hr_gi (w := φ 164 1) (b := 4) (e := 1) 164 rfl (by decide +kernel) (hf_up_ne (fun q => absurd q.1 (by decide))) ?_
  refine hr_pi (b := 4) (e := 1) 17 rfl (by decide +kernel) ?_
  refine hw_ald (b := 0) (e := 0) (by decide +kernel) rfl (by decide) ?_
  refine hw_ald (b := 1) (e := 0) (by decide +kernel) rfl (by decide) ?_
  refine hr_gi (w := φ 164 2) (b := 4) (e := 2) 164 rfl (by decide +kernel) ((hf_up_ne (fun q => absurd q.1 (by decide))).trans (hf_up_ne (fun q => absurd q.1 (by decide)))) ?_
  refine hr_pi (b := 4) (e := 2) 17 rfl (by decide +kernel) ?_
  refine hw_ald (b := 0) (e := 0) (by decide +kernel) rfl (by decide) ?_
  refine hw_ald (b := 1) (e := 0) (by decide +kernel) rfl (by decide) ?_
  refine hr_gi (w := φ 164 3) (b := 4) (e := 3) 164 rfl (by decide +kernel) ((hf_up_ne (fun q => absurd q.1 (by decide))).trans ((hf_up_ne (fun q => absurd q.1 (by decide))).trans (hf_up_ne (fun q => absurd q.1 (by decide))))) ?_
  refine hr_pi (b := 4) (e := 3) 17 rfl (by decide +kernel) ?_
  refine hw_ald (b := 0) (e := 0) (by decide +kernel) rfl (by decide) ?_
  refine hw_ald (b := 1) (e := 0) (by decide +kernel) rfl (by decide) ?_
  refine hr_gi (w := φ 164 4) (b := 4) (e := 4) 164 rfl (by decide +kernel) ((hf_up_ne (fun q => absurd q.1 (by decide))).trans ((hf_up_ne (fun q => absurd q.1 (by decide))).trans ((hf_up_ne (fun q => absurd q.1 (by decide))).trans (hf_up_ne (fun q => absurd q.1 (by decide)))))) ?_
  refine hr_pi (b := 4) (e := 4) 17 rfl (by decide +kernel) ?_
  refine hw_ald (b := 0) (e := 0) (by decide +kernel) rfl (by decide) ?_
  refine hw_ald (b := 1) (e := 0) (by decide +kernel) rfl (by decide) ?_
  refine hr_gi (w := φ 164 5) (b := 4) (e := 5) 164 rfl (by decide +kernel) ((hf_up_ne (fun q => absurd q.1 (by decide))).trans ((hf_up_ne (fun q => absurd q.1 (by decide))).trans ((hf_up_ne (fun q => absurd q.1 (by decide))).trans ((hf_up_ne (fun q => absurd q.1 (by decide))).trans (hf_up_ne (fun q => absurd q.1 (by decide))))))) ?_
  refine hr_pi (b := 4) (e := 5) 17 rfl (by decide +kernel) ?_
  refine hw_ald (b := 1) (e := 0) (by decide +kernel) rfl (by decide) ?_
  refine hr_gr (w := 165) (b := 4) (e := 6) 164 rfl (by decide +kernel) ?_
  refine hw_k (c := 0) (b := 0) (e := 1) (by decide +kernel) ?_
  refine hw_ald (b := 0) (e := 0) (by decide +kernel) rfl (by decide) ?_
  refine hr_gr (w := 18) (b := 4) (e := 6) 17 rfl (by decide +kernel) ?_
  refine hw_k (c := 0) (b := 0) (e := 1) (by decide +kernel) ?_
  refine hw_k (c := 8) (b := 1) (e := 2) (by decide +kernel) ?_
  refine hr_cp (a0 := 0) (b0 := 0) (e := 0) 165 18 8 rfl rfl rfl (by decide +kernel) (Nat.le_of_ble_eq_true rfl) ?_
  refine hw_ald (b := 1) (e := 0) (by decide +kernel) rfl (by decide) ?_
  refine hr_gr (w := 166) (b := 4) (e := 7) 164 rfl (by decide +kernel) ?_
  refine hw_k (c := 0) (b := 0) (e := 1) (by decide +kernel) ?_
  refine hw_ald (b := 0) (e := 0) (by decide +kernel) rfl (by decide) ?_
  refine hr_gr (w := 19) (b := 4) (e := 7) 17 rfl (by decide +kernel) ?_
  refine hw_k (c := 0) (b := 0) (e := 1) (by decide +kernel) ?_
  refine hw_k (c := 8) (b := 1) (e := 2) (by decide +kernel) ?_
  refine hr_cp (a0 := 0) (b0 := 0) (e := 0) 166 19 8 rfl rfl rfl (by decide +kernel) (Nat.le_of_ble_eq_true rfl) ?_
  refine hw_ald (b := 1) (e := 0) (by decide +kernel) rfl (by decide) ?_
  refine hr_gr (w := 167) (b := 4) (e := 8) 164 rfl (by decide +kernel) ?_
  refine hw_k (c := 0) (b := 0) (e := 1) (by decide +kernel) ?_
  refine hw_ald (b := 0) (e := 0) (by decide +kernel) rfl (by decide) ?_
  refine hr_gr (w := 20) (b := 4) (e := 8) 17 rfl (by decide +kernel) ?_
  refine hw_k (c := 0) (b := 0) (e := 1) (by decide +kernel) ?_
  refine hw_k (c := 6) (b := 1) (e := 2) (by decide +kernel) ?_
  refine hr_cp (a0 := 0) (b0 := 0) (e := 0) 167 20 6 rfl rfl rfl (by decide +kernel) (Nat.le_of_ble_eq_true rfl) ?_
  refine hw_ald (b := 1) (e := 0) (by decide +kernel) rfl (by decide) ?_
  refine hr_gr (w := 168) (b := 4) (e := 9) 164 rfl (by decide +kernel) ?_
  refine hw_k (c := 0) (b := 0) (e := 1) (by decide +kernel) ?_
  refine hw_ald (b := 0) (e := 0) (by decide +kernel) rfl (by decide) ?_
  refine hr_gr (w := 21) (b := 4) (e := 9) 17 rfl (by decide +kernel) ?_
  refine hw_k (c := 0) (b := 0) (e := 1) (by decide +kernel) ?_
  refine hw_k (c := 6) (b := 1) (e := 2) (by decide +kernel) ?_
  refine hr_cp (a0 := 0) (b0 := 0) (e := 0) 168 21 6 rfl rfl rfl (by decide +kernel) (Nat.le_of_ble_eq_true rfl) ?_
  refine hw_ald (b := 1) (e := 0) (by decide +kernel) rfl (by decide) ?_
  refine hr_gr (w := 169) (b := 4) (e := 10) 164 rfl (by decide +kernel) ?_
  refine hw_k (c := 0) (b := 0) (e := 1) (by decide +kernel) ?_
  refine hw_ald (b := 0) (e := 0) (by decide +kernel) rfl (by decide) ?_
  refine hr_gr (w := 22) (b := 4) (e := 10) 17 rfl (by decide +kernel) ?_
  refine hw_k (c := 0) (b := 0) (e := 1) (by decide +kernel) ?_
  refine hw_k (c := 36) (b := 1) (e := 2) (by decide +kernel) ?_
  refine hr_cp (a0 := 0) (b0 := 0) (e := 0) 169 22 36 rfl rfl rfl (by decide +kernel) (Nat.le_of_ble_eq_true rfl) ?_
  refine hw_ald (b := 1) (e := 0) (by decide +kernel) rfl (by decide) ?_
  refine hr_gr (w := 170) (b := 4) (e := 11) 164 rfl (by decide +kernel) ?_
  refine hw_k (c := 0) (b := 0) (e := 1) (by decide +kernel) ?_
  refine hw_ald (b := 0) (e := 0) (by decide +kernel) rfl (by decide) ?_
  refine hr_gr (w := 23) (b := 4) (e := 11) 17 rfl (by decide +kernel) ?_
  refine hw_k (c := 0) (b := 0) (e := 1) (by decide +kernel) ?_
  refine hw_k (c := 6) (b := 1) (e := 2) (by decide +kernel) ?_
  refine hr_cp (a0 := 0) (b0 := 0) (e := 0) 170 23 6 rfl rfl rfl (by decide +kernel) (Nat.le_of_ble_eq_true rfl) ?_
  refine hw_ald (b := 1) (e := 0) (by decide +kernel) rfl (by decide) ?_
  refine hr_gr (w := 171) (b := 4) (e := 12) 164 rfl (by decide +kernel) ?_
  refine hw_k (c := 0) (b := 0) (e := 1) (by decide +kernel) ?_
  refine hw_ald (b := 0) (e := 0) (by decide +kernel) rfl (by decide) ?_
  refine hr_gr (w := 24) (b := 4) (e := 12) 17 rfl (by decide +kernel) ?_
  refine hw_k (c := 0) (b := 0) (e := 1) (by decide +kernel) ?_
  refine hw_k (c := 6) (b := 1) (e := 2) (by decide +kernel) ?_
  refine hr_cp (a0 := 0) (b0 := 0) (e := 0) 171 24 6 rfl rfl rfl (by decide +kernel) (Nat.le_of_ble_eq_true rfl) ?_
  refine hw_ald (b := 1) (e := 0) (by decide +kernel) rfl (by decide) ?_
  refine hr_gr (w := 172) (b := 4) (e := 13) 164 rfl (by decide +kernel) ?_
  refine hw_k (c := 0) (b := 0) (e := 1) (by decide +kernel) ?_
  refine hw_ald (b := 0) (e := 0) (by decide +kernel) rfl (by decide) ?_
  refine hr_gr (w := 25) (b := 4) (e := 13) 17 rfl (by decide +kernel) ?_
  refine hw_k (c := 0) (b := 0) (e := 1) (by decide +kernel) ?_
  refine hw_k (c := 8) (b := 1) (e := 2) (by decide +kernel) ?_
  refine hr_cp (a0 := 0) (b0 := 0) (e := 0) 172 25 8 rfl rfl rfl (by decide +kernel) (Nat.le_of_ble_eq_true rfl) ?_
  exact hw_vret (a0 := 0) (e := 0) (by decide +kernel) H
theorem sf_66_17_164 {sc : List Int} {d : Nat} {φ : hf_F} {x : Nat} {Q : Option jm_V → hf_F → Nat → Prop}  (hI : Inv φ)  (hQ : ∀ ψ : hf_F, Inv ψ → Fr [18, 19, 20, 21, 22, 23, 24, 25, 18000, 18001, 18002, 18003, 18004, 18005] φ ψ → F_State_copyFrom_17_164 φ = ψ → Q none ψ x) : hw sc d 66 0 [(0, (2, 17)), (1, (2, 164))] [] φ x Q := by
  apply sf_66_17_164_v
  have e0 : F_State_copyFrom_17_164 φ = _ := rfl
  have i1 : Inv (hf_up φ 17 0 (φ 164 0)) := iv_upn hI (by decide) (by decide) (by decide +kernel)
  have r1 : Fr [18, 19, 20, 21, 22, 23, 24, 25, 18000, 18001, 18002, 18003, 18004, 18005] φ (hf_up φ 17 0 (φ 164 0)) := fr_up (fr_rf) (by decide)
  have f2 := iv_at (a := 164) (k := 1) (lo := (-1 : Int)) (u := 7) hI (by decide +kernel)
  have i3 : Inv (hf_up (hf_up φ 17 0 (φ 164 0)) 17 1 (φ 164 1)) := iv_up (lo := (-1 : Int)) (u := 7) i1 (by decide +kernel) (by omega) (by omega)
  have r3 : Fr [18, 19, 20, 21, 22, 23, 24, 25, 18000, 18001, 18002, 18003, 18004, 18005] φ (hf_up (hf_up φ 17 0 (φ 164 0)) 17 1 (φ 164 1)) := fr_up r1 (by decide)
  have f4 := iv_at (a := 164) (k := 2) (lo := (-1 : Int)) (u := 5) hI (by decide +kernel)
  have i5 : Inv (hf_up (hf_up (hf_up φ 17 0 (φ 164 0)) 17 1 (φ 164 1)) 17 2 (φ 164 2)) := iv_up (lo := (-1 : Int)) (u := 5) i3 (by decide +kernel) (by omega) (by omega)
  have r5 : Fr [18, 19, 20, 21, 22, 23, 24, 25, 18000, 18001, 18002, 18003, 18004, 18005] φ (hf_up (hf_up (hf_up φ 17 0 (φ 164 0)) 17 1 (φ 164 1)) 17 2 (φ 164 2)) := fr_up r3 (by decide)
  have f6 := iv_at (a := 164) (k := 3) (lo := (-2147483648 : Int)) (u := 2147483647) hI (by decide +kernel)
  have i7 : Inv (hf_up (hf_up (hf_up (hf_up φ 17 0 (φ 164 0)) 17 1 (φ 164 1)) 17 2 (φ 164 2)) 17 3 (φ 164 3)) := iv_up (lo := (-2147483648 : Int)) (u := 2147483647) i5 (by decide +kernel) (by omega) (by omega)
  have r7 : Fr [18, 19, 20, 21, 22, 23, 24, 25, 18000, 18001, 18002, 18003, 18004, 18005] φ (hf_up (hf_up (hf_up (hf_up φ 17 0 (φ 164 0)) 17 1 (φ 164 1)) 17 2 (φ 164 2)) 17 3 (φ 164 3)) := fr_up r5 (by decide)
  have i8 : Inv (hf_up (hf_up (hf_up (hf_up (hf_up φ 17 0 (φ 164 0)) 17 1 (φ 164 1)) 17 2 (φ 164 2)) 17 3 (φ 164 3)) 17 4 (φ 164 4)) := iv_upn i7 (by decide) (by decide) (by decide +kernel)
  have r8 : Fr [18, 19, 20, 21, 22, 23, 24, 25, 18000, 18001, 18002, 18003, 18004, 18005] φ (hf_up (hf_up (hf_up (hf_up (hf_up φ 17 0 (φ 164 0)) 17 1 (φ 164 1)) 17 2 (φ 164 2)) 17 3 (φ 164 3)) 17 4 (φ 164 4)) := fr_up r7 (by decide)
  have i9 : Inv (hf_up (hf_up (hf_up (hf_up (hf_up (hf_up φ 17 0 (φ 164 0)) 17 1 (φ 164 1)) 17 2 (φ 164 2)) 17 3 (φ 164 3)) 17 4 (φ 164 4)) 17 5 (φ 164 5)) := iv_upn i8 (by decide) (by decide) (by decide +kernel)
  have r9 : Fr [18, 19, 20, 21, 22, 23, 24, 25, 18000, 18001, 18002, 18003, 18004, 18005] φ (hf_up (hf_up (hf_up (hf_up (hf_up (hf_up φ 17 0 (φ 164 0)) 17 1 (φ 164 1)) 17 2 (φ 164 2)) 17 3 (φ 164 3)) 17 4 (φ 164 4)) 17 5 (φ 164 5)) := fr_up r8 (by decide)
  have i10 : Inv (hf_cp (hf_up (hf_up (hf_up (hf_up (hf_up (hf_up φ 17 0 (φ 164 0)) 17 1 (φ 164 1)) 17 2 (φ 164 2)) 17 3 (φ 164 3)) 17 4 (φ 164 4)) 17 5 (φ 164 5)) 165 18 8) := iv_cp i9 (by decide) (by decide +kernel)
  have r10 : Fr [18, 19, 20, 21, 22, 23, 24, 25, 18000, 18001, 18002, 18003, 18004, 18005] φ (hf_cp (hf_up (hf_up (hf_up (hf_up (hf_up (hf_up φ 17 0 (φ 164 0)) 17 1 (φ 164 1)) 17 2 (φ 164 2)) 17 3 (φ 164 3)) 17 4 (φ 164 4)) 17 5 (φ 164 5)) 165 18 8) := fr_cp r9 (by decide)
  have i11 : Inv (hf_cp (hf_cp (hf_up (hf_up (hf_up (hf_up (hf_up (hf_up φ 17 0 (φ 164 0)) 17 1 (φ 164 1)) 17 2 (φ 164 2)) 17 3 (φ 164 3)) 17 4 (φ 164 4)) 17 5 (φ 164 5)) 165 18 8) 166 19 8) := iv_cp i10 (by decide) (by decide +kernel)
  have r11 : Fr [18, 19, 20, 21, 22, 23, 24, 25, 18000, 18001, 18002, 18003, 18004, 18005] φ (hf_cp (hf_cp (hf_up (hf_up (hf_up (hf_up (hf_up (hf_up φ 17 0 (φ 164 0)) 17 1 (φ 164 1)) 17 2 (φ 164 2)) 17 3 (φ 164 3)) 17 4 (φ 164 4)) 17 5 (φ 164 5)) 165 18 8) 166 19 8) := fr_cp r10 (by decide)
  have i12 : Inv (hf_cp (hf_cp (hf_cp (hf_up (hf_up (hf_up (hf_up (hf_up (hf_up φ 17 0 (φ 164 0)) 17 1 (φ 164 1)) 17 2 (φ 164 2)) 17 3 (φ 164 3)) 17 4 (φ 164 4)) 17 5 (φ 164 5)) 165 18 8) 166 19 8) 167 20 6) := iv_cp i11 (by decide) (by decide +kernel)
  have r12 : Fr [18, 19, 20, 21, 22, 23, 24, 25, 18000, 18001, 18002, 18003, 18004, 18005] φ (hf_cp (hf_cp (hf_cp (hf_up (hf_up (hf_up (hf_up (hf_up (hf_up φ 17 0 (φ 164 0)) 17 1 (φ 164 1)) 17 2 (φ 164 2)) 17 3 (φ 164 3)) 17 4 (φ 164 4)) 17 5 (φ 164 5)) 165 18 8) 166 19 8) 167 20 6) := fr_cp r11 (by decide)
  have i13 : Inv (hf_cp (hf_cp (hf_cp (hf_cp (hf_up (hf_up (hf_up (hf_up (hf_up (hf_up φ 17 0 (φ 164 0)) 17 1 (φ 164 1)) 17 2 (φ 164 2)) 17 3 (φ 164 3)) 17 4 (φ 164 4)) 17 5 (φ 164 5)) 165 18 8) 166 19 8) 167 20 6) 168 21 6) := iv_cp i12 (by decide) (by decide +kernel)
  have r13 : Fr [18, 19, 20, 21, 22, 23, 24, 25, 18000, 18001, 18002, 18003, 18004, 18005] φ (hf_cp (hf_cp (hf_cp (hf_cp (hf_up (hf_up (hf_up (hf_up (hf_up (hf_up φ 17 0 (φ 164 0)) 17 1 (φ 164 1)) 17 2 (φ 164 2)) 17 3 (φ 164 3)) 17 4 (φ 164 4)) 17 5 (φ 164 5)) 165 18 8) 166 19 8) 167 20 6) 168 21 6) := fr_cp r12 (by decide)
  have i14 : Inv (hf_cp (hf_cp (hf_cp (hf_cp (hf_cp (hf_up (hf_up (hf_up (hf_up (hf_up (hf_up φ 17 0 (φ 164 0)) 17 1 (φ 164 1)) 17 2 (φ 164 2)) 17 3 (φ 164 3)) 17 4 (φ 164 4)) 17 5 (φ 164 5)) 165 18 8) 166 19 8) 167 20 6) 168 21 6) 169 22 36) := iv_cp i13 (by decide) (by decide +kernel)
  have r14 : Fr [18, 19, 20, 21, 22, 23, 24, 25, 18000, 18001, 18002, 18003, 18004, 18005] φ (hf_cp (hf_cp (hf_cp (hf_cp (hf_cp (hf_up (hf_up (hf_up (hf_up (hf_up (hf_up φ 17 0 (φ 164 0)) 17 1 (φ 164 1)) 17 2 (φ 164 2)) 17 3 (φ 164 3)) 17 4 (φ 164 4)) 17 5 (φ 164 5)) 165 18 8) 166 19 8) 167 20 6) 168 21 6) 169 22 36) := fr_cp r13 (by decide)
  have i15 : Inv (hf_cp (hf_cp (hf_cp (hf_cp (hf_cp (hf_cp (hf_up (hf_up (hf_up (hf_up (hf_up (hf_up φ 17 0 (φ 164 0)) 17 1 (φ 164 1)) 17 2 (φ 164 2)) 17 3 (φ 164 3)) 17 4 (φ 164 4)) 17 5 (φ 164 5)) 165 18 8) 166 19 8) 167 20 6) 168 21 6) 169 22 36) 170 23 6) := iv_cp i14 (by decide) (by decide +kernel)
  have r15 : Fr [18, 19, 20, 21, 22, 23, 24, 25, 18000, 18001, 18002, 18003, 18004, 18005] φ (hf_cp (hf_cp (hf_cp (hf_cp (hf_cp (hf_cp (hf_up (hf_up (hf_up (hf_up (hf_up (hf_up φ 17 0 (φ 164 0)) 17 1 (φ 164 1)) 17 2 (φ 164 2)) 17 3 (φ 164 3)) 17 4 (φ 164 4)) 17 5 (φ 164 5)) 165 18 8) 166 19 8) 167 20 6) 168 21 6) 169 22 36) 170 23 6) := fr_cp r14 (by decide)
  have i16 : Inv (hf_cp (hf_cp (hf_cp (hf_cp (hf_cp (hf_cp (hf_cp (hf_up (hf_up (hf_up (hf_up (hf_up (hf_up φ 17 0 (φ 164 0)) 17 1 (φ 164 1)) 17 2 (φ 164 2)) 17 3 (φ 164 3)) 17 4 (φ 164 4)) 17 5 (φ 164 5)) 165 18 8) 166 19 8) 167 20 6) 168 21 6) 169 22 36) 170 23 6) 171 24 6) := iv_cp i15 (by decide) (by decide +kernel)
  have r16 : Fr [18, 19, 20, 21, 22, 23, 24, 25, 18000, 18001, 18002, 18003, 18004, 18005] φ (hf_cp (hf_cp (hf_cp (hf_cp (hf_cp (hf_cp (hf_cp (hf_up (hf_up (hf_up (hf_up (hf_up (hf_up φ 17 0 (φ 164 0)) 17 1 (φ 164 1)) 17 2 (φ 164 2)) 17 3 (φ 164 3)) 17 4 (φ 164 4)) 17 5 (φ 164 5)) 165 18 8) 166 19 8) 167 20 6) 168 21 6) 169 22 36) 170 23 6) 171 24 6) := fr_cp r15 (by decide)
  have i17 : Inv (hf_cp (hf_cp (hf_cp (hf_cp (hf_cp (hf_cp (hf_cp (hf_cp (hf_up (hf_up (hf_up (hf_up (hf_up (hf_up φ 17 0 (φ 164 0)) 17 1 (φ 164 1)) 17 2 (φ 164 2)) 17 3 (φ 164 3)) 17 4 (φ 164 4)) 17 5 (φ 164 5)) 165 18 8) 166 19 8) 167 20 6) 168 21 6) 169 22 36) 170 23 6) 171 24 6) 172 25 8) := iv_cp i16 (by decide) (by decide +kernel)
  have r17 : Fr [18, 19, 20, 21, 22, 23, 24, 25, 18000, 18001, 18002, 18003, 18004, 18005] φ (hf_cp (hf_cp (hf_cp (hf_cp (hf_cp (hf_cp (hf_cp (hf_cp (hf_up (hf_up (hf_up (hf_up (hf_up (hf_up φ 17 0 (φ 164 0)) 17 1 (φ 164 1)) 17 2 (φ 164 2)) 17 3 (φ 164 3)) 17 4 (φ 164 4)) 17 5 (φ 164 5)) 165 18 8) 166 19 8) 167 20 6) 168 21 6) 169 22 36) 170 23 6) 171 24 6) 172 25 8) := fr_cp r16 (by decide)
  exact hQ (hf_cp (hf_cp (hf_cp (hf_cp (hf_cp (hf_cp (hf_cp (hf_cp (hf_up (hf_up (hf_up (hf_up (hf_up (hf_up φ 17 0 (φ 164 0)) 17 1 (φ 164 1)) 17 2 (φ 164 2)) 17 3 (φ 164 3)) 17 4 (φ 164 4)) 17 5 (φ 164 5)) 165 18 8) 166 19 8) 167 20 6) 168 21 6) 169 22 36) 170 23 6) 171 24 6) 172 25 8) i17 r17 e0
theorem sf_66_17_173_v {sc : List Int} {d : Nat} {φ : hf_F} {x : Nat} {Q : Option jm_V → hf_F → Nat → Prop} 
    (H : Q none (hf_cp (hf_cp (hf_cp (hf_cp (hf_cp (hf_cp (hf_cp (hf_cp (hf_up (hf_up (hf_up (hf_up (hf_up (hf_up φ 17 0 (φ 173 0)) 17 1 (φ 173 1)) 17 2 (φ 173 2)) 17 3 (φ 173 3)) 17 4 (φ 173 4)) 17 5 (φ 173 5)) 174 18 8) 175 19 8) 176 20 6) 177 21 6) 178 22 36) 179 23 6) 180 24 6) 181 25 8) x) :
    hw sc d 66 0 [(0, (2, 17)), (1, (2, 173))] [] φ x Q := by
  refine hw_ald (b := 0) (e := 0) (by decide +kernel) rfl (by decide) ?_
  refine hw_ald (b := 1) (e := 0) (by decide +kernel) rfl (by decide) ?_
  refine hr_gi (w := φ 173 0) (b := 4) (e := 0) 173 rfl (by decide +kernel) rfl ?_
  refine hr_pi (b := 4) (e := 0) 17 rfl (by decide +kernel) ?_
  refine hw_ald (b := 0) (e := 0) (by decide +kernel) rfl (by decide) ?_
  refine hw_ald (b := 1) (e := 0) (by decide +kernel) rfl (by decide) ?_
  refine hr_gi (w := φ 173 1) (b := 4) (e := 1) 173 rfl (by decide +kernel) (hf_up_ne (fun q => absurd q.1 (by decide))) ?_
  refine hr_pi (b := 4) (e := 1) 17 rfl (by decide +kernel) ?_
  refine hw_ald (b := 0) (e := 0) (by decide +kernel) rfl (by decide) ?_
  refine hw_ald (b := 1) (e := 0) (by decide +kernel) rfl (by decide) ?_
  refine hr_gi (w := φ 173 2) (b := 4) (e := 2) 173 rfl (by decide +kernel) ((hf_up_ne (fun q => absurd q.1 (by decide))).trans (hf_up_ne (fun q => absurd q.1 (by decide)))) ?_
  refine hr_pi (b := 4) (e := 2) 17 rfl (by decide +kernel) ?_
  refine hw_ald (b := 0) (e := 0) (by decide +kernel) rfl (by decide) ?_
  refine hw_ald (b := 1) (e := 0) (by decide +kernel) rfl (by decide) ?_
  refine hr_gi (w := φ 173 3) (b := 4) (e := 3) 173 rfl (by decide +kernel) ((hf_up_ne (fun q => absurd q.1 (by decide))).trans ((hf_up_ne (fun q => absurd q.1 (by decide))).trans (hf_up_ne (fun q => absurd q.1 (by decide))))) ?_
  refine hr_pi (b := 4) (e := 3) 17 rfl (by decide +kernel) ?_
  refine hw_ald (b := 0) (e := 0) (by decide +kernel) rfl (by decide) ?_
  refine hw_ald (b := 1) (e := 0) (by decide +kernel) rfl (by decide) ?_
  refine hr_gi (w := φ 173 4) (b := 4) (e := 4) 173 rfl (by decide +kernel) ((hf_up_ne (fun q => absurd q.1 (by decide))).trans ((hf_up_ne (fun q => absurd q.1 (by decide))).trans ((hf_up_ne (fun q => absurd q.1 (by decide))).trans (hf_up_ne (fun q => absurd q.1 (by decide)))))) ?_
  refine hr_pi (b := 4) (e := 4) 17 rfl (by decide +kernel) ?_
  refine hw_ald (b := 0) (e := 0) (by decide +kernel) rfl (by decide) ?_
  refine hw_ald (b := 1) (e := 0) (by decide +kernel) rfl (by decide) ?_
  refine hr_gi (w := φ 173 5) (b := 4) (e := 5) 173 rfl (by decide +kernel) ((hf_up_ne (fun q => absurd q.1 (by decide))).trans ((hf_up_ne (fun q => absurd q.1 (by decide))).trans ((hf_up_ne (fun q => absurd q.1 (by decide))).trans ((hf_up_ne (fun q => absurd q.1 (by decide))).trans (hf_up_ne (fun q => absurd q.1 (by decide))))))) ?_
  refine hr_pi (b := 4) (e := 5) 17 rfl (by decide +kernel) ?_
  refine hw_ald (b := 1) (e := 0) (by decide +kernel) rfl (by decide) ?_
  refine hr_gr (w := 174) (b := 4) (e := 6) 173 rfl (by decide +kernel) ?_
  refine hw_k (c := 0) (b := 0) (e := 1) (by decide +kernel) ?_
  refine hw_ald (b := 0) (e := 0) (by decide +kernel) rfl (by decide) ?_
  refine hr_gr (w := 18) (b := 4) (e := 6) 17 rfl (by decide +kernel) ?_
  refine hw_k (c := 0) (b := 0) (e := 1) (by decide +kernel) ?_
  refine hw_k (c := 8) (b := 1) (e := 2) (by decide +kernel) ?_
  refine hr_cp (a0 := 0) (b0 := 0) (e := 0) 174 18 8 rfl rfl rfl (by decide +kernel) (Nat.le_of_ble_eq_true rfl) ?_
  refine hw_ald (b := 1) (e := 0) (by decide +kernel) rfl (by decide) ?_
  refine hr_gr (w := 175) (b := 4) (e := 7) 173 rfl (by decide +kernel) ?_
  refine hw_k (c := 0) (b := 0) (e := 1) (by decide +kernel) ?_
  refine hw_ald (b := 0) (e := 0) (by decide +kernel) rfl (by decide) ?_
  refine hr_gr (w := 19) (b := 4) (e := 7) 17 rfl (by decide +kernel) ?_
  refine hw_k (c := 0) (b := 0) (e := 1) (by decide +kernel) ?_
  refine hw_k (c := 8) (b := 1) (e := 2) (by decide +kernel) ?_
  refine hr_cp (a0 := 0) (b0 := 0) (e := 0) 175 19 8 rfl rfl rfl (by decide +kernel) (Nat.le_of_ble_eq_true rfl) ?_
  refine hw_ald (b := 1) (e := 0) (by decide +kernel) rfl (by decide) ?_
  refine hr_gr (w := 176) (b := 4) (e := 8) 173 rfl (by decide +kernel) ?_
  refine hw_k (c := 0) (b := 0) (e := 1) (by decide +kernel) ?_
  refine hw_ald (b := 0) (e := 0) (by decide +kernel) rfl (by decide) ?_
  refine hr_gr (w := 20) (b := 4) (e := 8) 17 rfl (by decide +kernel) ?_
  refine hw_k (c := 0) (b := 0) (e := 1) (by decide +kernel) ?_
  refine hw_k (c := 6) (b := 1) (e := 2) (by decide +kernel) ?_
  refine hr_cp (a0 := 0) (b0 := 0) (e := 0) 176 20 6 rfl rfl rfl (by decide +kernel) (Nat.le_of_ble_eq_true rfl) ?_
  refine hw_ald (b := 1) (e := 0) (by decide +kernel) rfl (by decide) ?_
  refine hr_gr (w := 177) (b := 4) (e := 9) 173 rfl (by decide +kernel) ?_
  refine hw_k (c := 0) (b := 0) (e := 1) (by decide +kernel) ?_
  refine hw_ald (b := 0) (e := 0) (by decide +kernel) rfl (by decide) ?_
  refine hr_gr (w := 21) (b := 4) (e := 9) 17 rfl (by decide +kernel) ?_
  refine hw_k (c := 0) (b := 0) (e := 1) (by decide +kernel) ?_
  refine hw_k (c := 6) (b := 1) (e := 2) (by decide +kernel) ?_
  refine hr_cp (a0 := 0) (b0 := 0) (e := 0) 177 21 6 rfl rfl rfl (by decide +kernel) (Nat.le_of_ble_eq_true rfl) ?_
  refine hw_ald (b := 1) (e := 0) (by decide +kernel) rfl (by decide) ?_
  refine hr_gr (w := 178) (b := 4) (e := 10) 173 rfl (by decide +kernel) ?_
  refine hw_k (c := 0) (b := 0) (e := 1) (by decide +kernel) ?_
  refine hw_ald (b := 0) (e := 0) (by decide +kernel) rfl (by decide) ?_
  refine hr_gr (w := 22) (b := 4) (e := 10) 17 rfl (by decide +kernel) ?_
  refine hw_k (c := 0) (b := 0) (e := 1) (by decide +kernel) ?_
  refine hw_k (c := 36) (b := 1) (e := 2) (by decide +kernel) ?_
  refine hr_cp (a0 := 0) (b0 := 0) (e := 0) 178 22 36 rfl rfl rfl (by decide +kernel) (Nat.le_of_ble_eq_true rfl) ?_
  refine hw_ald (b := 1) (e := 0) (by decide +kernel) rfl (by decide) ?_
  refine hr_gr (w := 179) (b := 4) (e := 11) 173 rfl (by decide +kernel) ?_
  refine hw_k (c := 0) (b := 0) (e := 1) (by decide +kernel) ?_
  refine hw_ald (b := 0) (e := 0) (by decide +kernel) rfl (by decide) ?_
  refine hr_gr (w := 23) (b := 4) (e := 11) 17 rfl (by decide +kernel) ?_
  refine hw_k (c := 0) (b := 0) (e := 1) (by decide +kernel) ?_
  refine hw_k (c := 6) (b := 1) (e := 2) (by decide +kernel) ?_
  refine hr_cp (a0 := 0) (b0 := 0) (e := 0) 179 23 6 rfl rfl rfl (by decide +kernel) (Nat.le_of_ble_eq_true rfl) ?_
  refine hw_ald (b := 1) (e := 0) (by decide +kernel) rfl (by decide) ?_
  refine hr_gr (w := 180) (b := 4) (e := 12) 173 rfl (by decide +kernel) ?_
  refine hw_k (c := 0) (b := 0) (e := 1) (by decide +kernel) ?_
  refine hw_ald (b := 0) (e := 0) (by decide +kernel) rfl (by decide) ?_
  refine hr_gr (w := 24) (b := 4) (e := 12) 17 rfl (by decide +kernel) ?_
  refine hw_k (c := 0) (b := 0) (e := 1) (by decide +kernel) ?_
  refine hw_k (c := 6) (b := 1) (e := 2) (by decide +kernel) ?_
  refine hr_cp (a0 := 0) (b0 := 0) (e := 0) 180 24 6 rfl rfl rfl (by decide +kernel) (Nat.le_of_ble_eq_true rfl) ?_
  refine hw_ald (b := 1) (e := 0) (by decide +kernel) rfl (by decide) ?_
  refine hr_gr (w := 181) (b := 4) (e := 13) 173 rfl (by decide +kernel) ?_
  refine hw_k (c := 0) (b := 0) (e := 1) (by decide +kernel) ?_
  refine hw_ald (b := 0) (e := 0) (by decide +kernel) rfl (by decide) ?_
  refine hr_gr (w := 25) (b := 4) (e := 13) 17 rfl (by decide +kernel) ?_
  refine hw_k (c := 0) (b := 0) (e := 1) (by decide +kernel) ?_
  refine hw_k (c := 8) (b := 1) (e := 2) (by decide +kernel) ?_
  refine hr_cp (a0 := 0) (b0 := 0) (e := 0) 181 25 8 rfl rfl rfl (by decide +kernel) (Nat.le_of_ble_eq_true rfl) ?_
  exact hw_vret (a0 := 0) (e := 0) (by decide +kernel) H
theorem sf_66_17_173 {sc : List Int} {d : Nat} {φ : hf_F} {x : Nat} {Q : Option jm_V → hf_F → Nat → Prop}  (hI : Inv φ)  (hQ : ∀ ψ : hf_F, Inv ψ → Fr [18, 19, 20, 21, 22, 23, 24, 25, 18000, 18001, 18002, 18003, 18004, 18005] φ ψ → F_State_copyFrom_17_173 φ = ψ → Q none ψ x) : hw sc d 66 0 [(0, (2, 17)), (1, (2, 173))] [] φ x Q := by
  apply sf_66_17_173_v
  have e0 : F_State_copyFrom_17_173 φ = _ := rfl
  have i1 : Inv (hf_up φ 17 0 (φ 173 0)) := iv_upn hI (by decide) (by decide) (by decide +kernel)
  have r1 : Fr [18, 19, 20, 21, 22, 23, 24, 25, 18000, 18001, 18002, 18003, 18004, 18005] φ (hf_up φ 17 0 (φ 173 0)) := fr_up (fr_rf) (by decide)
  have f2 := iv_at (a := 173) (k := 1) (lo := (-1 : Int)) (u := 7) hI (by decide +kernel)
  have i3 : Inv (hf_up (hf_up φ 17 0 (φ 173 0)) 17 1 (φ 173 1)) := iv_up (lo := (-1 : Int)) (u := 7) i1 (by decide +kernel) (by omega) (by omega)
  have r3 : Fr [18, 19, 20, 21, 22, 23, 24, 25, 18000, 18001, 18002, 18003, 18004, 18005] φ (hf_up (hf_up φ 17 0 (φ 173 0)) 17 1 (φ 173 1)) := fr_up r1 (by decide)
  have f4 := iv_at (a := 173) (k := 2) (lo := (-1 : Int)) (u := 5) hI (by decide +kernel)
  have i5 : Inv (hf_up (hf_up (hf_up φ 17 0 (φ 173 0)) 17 1 (φ 173 1)) 17 2 (φ 173 2)) := iv_up (lo := (-1 : Int)) (u := 5) i3 (by decide +kernel) (by omega) (by omega)
  have r5 : Fr [18, 19, 20, 21, 22, 23, 24, 25, 18000, 18001, 18002, 18003, 18004, 18005] φ (hf_up (hf_up (hf_up φ 17 0 (φ 173 0)) 17 1 (φ 173 1)) 17 2 (φ 173 2)) := fr_up r3 (by decide)
  have f6 := iv_at (a := 173) (k := 3) (lo := (-2147483648 : Int)) (u := 2147483647) hI (by decide +kernel)
  have i7 : Inv (hf_up (hf_up (hf_up (hf_up φ 17 0 (φ 173 0)) 17 1 (φ 173 1)) 17 2 (φ 173 2)) 17 3 (φ 173 3)) := iv_up (lo := (-2147483648 : Int)) (u := 2147483647) i5 (by decide +kernel) (by omega) (by omega)
  have r7 : Fr [18, 19, 20, 21, 22, 23, 24, 25, 18000, 18001, 18002, 18003, 18004, 18005] φ (hf_up (hf_up (hf_up (hf_up φ 17 0 (φ 173 0)) 17 1 (φ 173 1)) 17 2 (φ 173 2)) 17 3 (φ 173 3)) := fr_up r5 (by decide)
  have i8 : Inv (hf_up (hf_up (hf_up (hf_up (hf_up φ 17 0 (φ 173 0)) 17 1 (φ 173 1)) 17 2 (φ 173 2)) 17 3 (φ 173 3)) 17 4 (φ 173 4)) := iv_upn i7 (by decide) (by decide) (by decide +kernel)
  have r8 : Fr [18, 19, 20, 21, 22, 23, 24, 25, 18000, 18001, 18002, 18003, 18004, 18005] φ (hf_up (hf_up (hf_up (hf_up (hf_up φ 17 0 (φ 173 0)) 17 1 (φ 173 1)) 17 2 (φ 173 2)) 17 3 (φ 173 3)) 17 4 (φ 173 4)) := fr_up r7 (by decide)
  have i9 : Inv (hf_up (hf_up (hf_up (hf_up (hf_up (hf_up φ 17 0 (φ 173 0)) 17 1 (φ 173 1)) 17 2 (φ 173 2)) 17 3 (φ 173 3)) 17 4 (φ 173 4)) 17 5 (φ 173 5)) := iv_upn i8 (by decide) (by decide) (by decide +kernel)
  have r9 : Fr [18, 19, 20, 21, 22, 23, 24, 25, 18000, 18001, 18002, 18003, 18004, 18005] φ (hf_up (hf_up (hf_up (hf_up (hf_up (hf_up φ 17 0 (φ 173 0)) 17 1 (φ 173 1)) 17 2 (φ 173 2)) 17 3 (φ 173 3)) 17 4 (φ 173 4)) 17 5 (φ 173 5)) := fr_up r8 (by decide)
  have i10 : Inv (hf_cp (hf_up (hf_up (hf_up (hf_up (hf_up (hf_up φ 17 0 (φ 173 0)) 17 1 (φ 173 1)) 17 2 (φ 173 2)) 17 3 (φ 173 3)) 17 4 (φ 173 4)) 17 5 (φ 173 5)) 174 18 8) := iv_cp i9 (by decide) (by decide +kernel)
  have r10 : Fr [18, 19, 20, 21, 22, 23, 24, 25, 18000, 18001, 18002, 18003, 18004, 18005] φ (hf_cp (hf_up (hf_up (hf_up (hf_up (hf_up (hf_up φ 17 0 (φ 173 0)) 17 1 (φ 173 1)) 17 2 (φ 173 2)) 17 3 (φ 173 3)) 17 4 (φ 173 4)) 17 5 (φ 173 5)) 174 18 8) := fr_cp r9 (by decide)
  have i11 : Inv (hf_cp (hf_cp (hf_up (hf_up (hf_up (hf_up (hf_up (hf_up φ 17 0 (φ 173 0)) 17 1 (φ 173 1)) 17 2 (φ 173 2)) 17 3 (φ 173 3)) 17 4 (φ 173 4)) 17 5 (φ 173 5)) 174 18 8) 175 19 8) := iv_cp i10 (by decide) (by decide +kernel)
  have r11 : Fr [18, 19, 20, 21, 22, 23, 24, 25, 18000, 18001, 18002, 18003, 18004, 18005] φ (hf_cp (hf_cp (hf_up (hf_up (hf_up (hf_up (hf_up (hf_up φ 17 0 (φ 173 0)) 17 1 (φ 173 1)) 17 2 (φ 173 2)) 17 3 (φ 173 3)) 17 4 (φ 173 4)) 17 5 (φ 173 5)) 174 18 8) 175 19 8) := fr_cp r10 (by decide)
  have i12 : Inv (hf_cp (hf_cp (hf_cp (hf_up (hf_up (hf_up (hf_up (hf_up (hf_up φ 17 0 (φ 173 0)) 17 1 (φ 173 1)) 17 2 (φ 173 2)) 17 3 (φ 173 3)) 17 4 (φ 173 4)) 17 5 (φ 173 5)) 174 18 8) 175 19 8) 176 20 6) := iv_cp i11 (by decide) (by decide +kernel)
  have r12 : Fr [18, 19, 20, 21, 22, 23, 24, 25, 18000, 18001, 18002, 18003, 18004, 18005] φ (hf_cp (hf_cp (hf_cp (hf_up (hf_up (hf_up (hf_up (hf_up (hf_up φ 17 0 (φ 173 0)) 17 1 (φ 173 1)) 17 2 (φ 173 2)) 17 3 (φ 173 3)) 17 4 (φ 173 4)) 17 5 (φ 173 5)) 174 18 8) 175 19 8) 176 20 6) := fr_cp r11 (by decide)
  have i13 : Inv (hf_cp (hf_cp (hf_cp (hf_cp (hf_up (hf_up (hf_up (hf_up (hf_up (hf_up φ 17 0 (φ 173 0)) 17 1 (φ 173 1)) 17 2 (φ 173 2)) 17 3 (φ 173 3)) 17 4 (φ 173 4)) 17 5 (φ 173 5)) 174 18 8) 175 19 8) 176 20 6) 177 21 6) := iv_cp i12 (by decide) (by decide +kernel)
  have r13 : Fr [18, 19, 20, 21, 22, 23, 24, 25, 18000, 18001, 18002, 18003, 18004, 18005] φ (hf_cp (hf_cp (hf_cp (hf_cp (hf_up (hf_up (hf_up (hf_up (hf_up (hf_up φ 17 0 (φ 173 0)) 17 1 (φ 173 1)) 17 2 (φ 173 2)) 17 3 (φ 173 3)) 17 4 (φ 173 4)) 17 5 (φ 173 5)) 174 18 8) 175 19 8) 176 20 6) 177 21 6) := fr_cp r12 (by decide)
  have i14 : Inv (hf_cp (hf_cp (hf_cp (hf_cp (hf_cp (hf_up (hf_up (hf_up (hf_up (hf_up (hf_up φ 17 0 (φ 173 0)) 17 1 (φ 173 1)) 17 2 (φ 173 2)) 17 3 (φ 173 3)) 17 4 (φ 173 4)) 17 5 (φ 173 5)) 174 18 8) 175 19 8) 176 20 6) 177 21 6) 178 22 36) := iv_cp i13 (by decide) (by decide +kernel)
  have r14 : Fr [18, 19, 20, 21, 22, 23, 24, 25, 18000, 18001, 18002, 18003, 18004, 18005] φ (hf_cp (hf_cp (hf_cp (hf_cp (hf_cp (hf_up (hf_up (hf_up (hf_up (hf_up (hf_up φ 17 0 (φ 173 0)) 17 1 (φ 173 1)) 17 2 (φ 173 2)) 17 3 (φ 173 3)) 17 4 (φ 173 4)) 17 5 (φ 173 5)) 174 18 8) 175 19 8) 176 20 6) 177 21 6) 178 22 36) := fr_cp r13 (by decide)
  have i15 : Inv (hf_cp (hf_cp (hf_cp (hf_cp (hf_cp (hf_cp (hf_up (hf_up (hf_up (hf_up (hf_up (hf_up φ 17 0 (φ 173 0)) 17 1 (φ 173 1)) 17 2 (φ 173 2)) 17 3 (φ 173 3)) 17 4 (φ 173 4)) 17 5 (φ 173 5)) 174 18 8) 175 19 8) 176 20 6) 177 21 6) 178 22 36) 179 23 6) := iv_cp i14 (by decide) (by decide +kernel)
  have r15 : Fr [18, 19, 20, 21, 22, 23, 24, 25, 18000, 18001, 18002, 18003, 18004, 18005] φ (hf_cp (hf_cp (hf_cp (hf_cp (hf_cp (hf_cp (hf_up (hf_up (hf_up (hf_up (hf_up (hf_up φ 17 0 (φ 173 0)) 17 1 (φ 173 1)) 17 2 (φ 173 2)) 17 3 (φ 173 3)) 17 4 (φ 173 4)) 17 5 (φ 173 5)) 174 18 8) 175 19 8) 176 20 6) 177 21 6) 178 22 36) 179 23 6) := fr_cp r14 (by decide)
  have i16 : Inv (hf_cp (hf_cp (hf_cp (hf_cp (hf_cp (hf_cp (hf_cp (hf_up (hf_up (hf_up (hf_up (hf_up (hf_up φ 17 0 (φ 173 0)) 17 1 (φ 173 1)) 17 2 (φ 173 2)) 17 3 (φ 173 3)) 17 4 (φ 173 4)) 17 5 (φ 173 5)) 174 18 8) 175 19 8) 176 20 6) 177 21 6) 178 22 36) 179 23 6) 180 24 6) := iv_cp i15 (by decide) (by decide +kernel)
  have r16 : Fr [18, 19, 20, 21, 22, 23, 24, 25, 18000, 18001, 18002, 18003, 18004, 18005] φ (hf_cp (hf_cp (hf_cp (hf_cp (hf_cp (hf_cp (hf_cp (hf_up (hf_up (hf_up (hf_up (hf_up (hf_up φ 17 0 (φ 173 0)) 17 1 (φ 173 1)) 17 2 (φ 173 2)) 17 3 (φ 173 3)) 17 4 (φ 173 4)) 17 5 (φ 173 5)) 174 18 8) 175 19 8) 176 20 6) 177 21 6) 178 22 36) 179 23 6) 180 24 6) := fr_cp r15 (by decide)
  have i17 : Inv (hf_cp (hf_cp (hf_cp (hf_cp (hf_cp (hf_cp (hf_cp (hf_cp (hf_up (hf_up (hf_up (hf_up (hf_up (hf_up φ 17 0 (φ 173 0)) 17 1 (φ 173 1)) 17 2 (φ 173 2)) 17 3 (φ 173 3)) 17 4 (φ 173 4)) 17 5 (φ 173 5)) 174 18 8) 175 19 8) 176 20 6) 177 21 6) 178 22 36) 179 23 6) 180 24 6) 181 25 8) := iv_cp i16 (by decide) (by decide +kernel)
  have r17 : Fr [18, 19, 20, 21, 22, 23, 24, 25, 18000, 18001, 18002, 18003, 18004, 18005] φ (hf_cp (hf_cp (hf_cp (hf_cp (hf_cp (hf_cp (hf_cp (hf_cp (hf_up (hf_up (hf_up (hf_up (hf_up (hf_up φ 17 0 (φ 173 0)) 17 1 (φ 173 1)) 17 2 (φ 173 2)) 17 3 (φ 173 3)) 17 4 (φ 173 4)) 17 5 (φ 173 5)) 174 18 8) 175 19 8) 176 20 6) 177 21 6) 178 22 36) 179 23 6) 180 24 6) 181 25 8) := fr_cp r16 (by decide)
  exact hQ (hf_cp (hf_cp (hf_cp (hf_cp (hf_cp (hf_cp (hf_cp (hf_cp (hf_up (hf_up (hf_up (hf_up (hf_up (hf_up φ 17 0 (φ 173 0)) 17 1 (φ 173 1)) 17 2 (φ 173 2)) 17 3 (φ 173 3)) 17 4 (φ 173 4)) 17 5 (φ 173 5)) 174 18 8) 175 19 8) 176 20 6) 177 21 6) 178 22 36) 179 23 6) 180 24 6) 181 25 8) i17 r17 e0
theorem sf_95_108_17_v {sc : List Int} {d : Nat} {φ : hf_F} {x : Nat} {Q : Option jm_V → hf_F → Nat → Prop} 
    (H : hi (φ 108 1) ∧ (0 < (φ 108 1) → 0 ≤ ((φ 108 1) - 1) ∧ ((φ 108 1) - 1) < 8 ∧ Bf1 (φ 109 (((φ 108 1) - 1).toNat)) ∧ ((φ 109 (((φ 108 1) - 1).toNat)) = 110 → hw sc d 66 0 [(0, (2, 17)), (1, (2, 110))] [] (hf_up φ 108 1 ((φ 108 1) - 1)) x (fun r ψ3 y3 => y3 = x ∧ (r = none ∧ (Q (some (0, 1)) ψ3 x)))) ∧ ((φ 109 (((φ 108 1) - 1).toNat)) = 119 → hw sc d 66 0 [(0, (2, 17)), (1, (2, 119))] [] (hf_up φ 108 1 ((φ 108 1) - 1)) x (fun r ψ5 y5 => y5 = x ∧ (r = none ∧ (Q (some (0, 1)) ψ5 x)))) ∧ ((φ 109 (((φ 108 1) - 1).toNat)) = 128 → hw sc d 66 0 [(0, (2, 17)), (1, (2, 128))] [] (hf_up φ 108 1 ((φ 108 1) - 1)) x (fun r ψ7 y7 => y7 = x ∧ (r = none ∧ (Q (some (0, 1)) ψ7 x)))) ∧ ((φ 109 (((φ 108 1) - 1).toNat)) = 137 → hw sc d 66 0 [(0, (2, 17)), (1, (2, 137))] [] (hf_up φ 108 1 ((φ 108 1) - 1)) x (fun r ψ9 y9 => y9 = x ∧ (r = none ∧ (Q (some (0, 1)) ψ9 x)))) ∧ ((φ 109 (((φ 108 1) - 1).toNat)) = 146 → hw sc d 66 0 [(0, (2, 17)), (1, (2, 146))] [] (hf_up φ 108 1 ((φ 108 1) - 1)) x (fun r ψ11 y11 => y11 = x ∧ (r = none ∧ (Q (some (0, 1)) ψ11 x)))) ∧ ((φ 109 (((φ 108 1) - 1).toNat)) = 155 → hw sc d 66 0 [(0, (2, 17)), (1, (2, 155))] [] (hf_up φ 108 1 ((φ 108 1) - 1)) x (fun r ψ13 y13 => y13 = x ∧ (r = none ∧ (Q (some (0, 1)) ψ13 x)))) ∧ ((φ 109 (((φ 108 1) - 1).toNat)) = 164 → hw sc d 66 0 [(0, (2, 17)), (1, (2, 164))] [] (hf_up φ 108 1 ((φ 108 1) - 1)) x (fun r ψ15 y15 => y15 = x ∧ (r = none ∧ (Q (some (0, 1)) ψ15 x)))) ∧ ((φ 109 (((φ 108 1) - 1).toNat)) = 173 → hw sc d 66 0 [(0, (2, 17)), (1, (2, 173))] [] (hf_up φ 108 1 ((φ 108 1) - 1)) x (fun r ψ17 y17 => y17 = x ∧ (r = none ∧ (Q (some (0, 1)) ψ17 x))))) ∧ (¬ 0 < (φ 108 1) → Q (some (0, 0)) φ x)) :
    hw sc (d + 1) 95 0 [(0, (2, 108)), (1, (2, 17))] [] φ x Q := by
  refine hw_ald (b := 0) (e := 0) (by decide +kernel) rfl (by decide) ?_
  refine hr_gi (w := φ 108 1) (b := 6) (e := 1) 108 rfl (by decide +kernel) rfl ?_
  obtain ⟨hz1, ht1, hf1⟩ := H
  refine hw_if (a0 := 0) (b := 4) (e := 9) (by decide +kernel) hz1 (fun q => ?_) (fun q => ?_)
  · have H := ht1 q
    refine hw_ald (b := 0) (e := 0) (by decide +kernel) rfl (by decide) ?_
    refine hw_dup (a0 := 0) (e := 0) (by decide +kernel) (by decide) ?_
    refine hr_gi (w := φ 108 1) (b := 6) (e := 1) 108 rfl (by decide +kernel) rfl ?_
    refine hw_k (c := 1) (b := 0) (e := 1) (by decide +kernel) ?_
    refine hw_bin (w := (φ 108 1) - 1) (a0 := 0) (b := 1) (e := 0) (by decide +kernel) rfl ?_
    refine hr_pi (b := 6) (e := 1) 108 rfl (by decide +kernel) ?_
    refine hw_ald (b := 1) (e := 0) (by decide +kernel) rfl (by decide) ?_
    refine hw_ald (b := 0) (e := 0) (by decide +kernel) rfl (by decide) ?_
    refine hr_gr (w := 109) (b := 6) (e := 0) 108 rfl (by decide +kernel) ?_
    refine hw_ald (b := 0) (e := 0) (by decide +kernel) rfl (by decide) ?_
    refine hr_gi (w := (φ 108 1) - 1) (b := 6) (e := 1) 108 rfl (by decide +kernel) hf_up_eq ?_
    obtain ⟨hl2, hu2, H⟩ := H
    obtain ⟨hm2, H⟩ := H
    rcases hm2 with hm | hm | hm | hm | hm | hm | hm | hm
    · have H := H.1 hm
      refine hr_ala (a0 := 0) (e := 0) (n := 8) (w := 110) 109 rfl (by decide +kernel) hl2 hu2 ((hf_up_ne (fun q => absurd q.1 (by decide))).trans hm) ?_
      refine hr_call (a0 := 14) (b := 66) (e := 2) (nl := 2) (As := [(2, 110)]) (R := []) 17 rfl (by decide +kernel) rfl rfl (Nat.le_of_ble_eq_true rfl) (Nat.le_of_ble_eq_true rfl) ?_
      refine hw_mono H ?_
      rintro r ψ3 y3 ⟨hyx, hr, H⟩
      subst hyx
      subst hr
      refine ⟨hnen, ?_⟩
      show hw sc (d + 1) 95 32 [(0, (2, 108)), (1, (2, 17))] [] ψ3 y3 Q
      refine hw_k (c := 1) (b := 0) (e := 1) (by decide +kernel) ?_
      exact hw_ret (a0 := 0) (e := 1) (by decide +kernel) (Or.inr ⟨rfl, by decide⟩) H
    · have H := H.2.1 hm
      refine hr_ala (a0 := 0) (e := 0) (n := 8) (w := 119) 109 rfl (by decide +kernel) hl2 hu2 ((hf_up_ne (fun q => absurd q.1 (by decide))).trans hm) ?_
      refine hr_call (a0 := 14) (b := 66) (e := 2) (nl := 2) (As := [(2, 119)]) (R := []) 17 rfl (by decide +kernel) rfl rfl (Nat.le_of_ble_eq_true rfl) (Nat.le_of_ble_eq_true rfl) ?_
      refine hw_mono H ?_
      rintro r ψ5 y5 ⟨hyx, hr, H⟩
      subst hyx
      subst hr
      refine ⟨hnen, ?_⟩
      show hw sc (d + 1) 95 32 [(0, (2, 108)), (1, (2, 17))] [] ψ5 y5 Q
      refine hw_k (c := 1) (b := 0) (e := 1) (by decide +kernel) ?_
      exact hw_ret (a0 := 0) (e := 1) (by decide +kernel) (Or.inr ⟨rfl, by decide⟩) H
    · have H := H.2.2.1 hm
      refine hr_ala (a0 := 0) (e := 0) (n := 8) (w := 128) 109 rfl (by decide +kernel) hl2 hu2 ((hf_up_ne (fun q => absurd q.1 (by decide))).trans hm) ?_
      refine hr_call (a0 := 14) (b := 66) (e := 2) (nl := 2) (As := [(2, 128)]) (R := []) 17 rfl (by decide +kernel) rfl rfl (Nat.le_of_ble_eq_true rfl) (Nat.le_of_ble_eq_true rfl) ?_
      refine hw_mono H ?_
      rintro r ψ7 y7 ⟨hyx, hr, H⟩
      subst hyx
      subst hr
      refine ⟨hnen, ?_⟩
      show hw sc (d + 1) 95 32 [(0, (2, 108)), (1, (2, 17))] [] ψ7 y7 Q
      refine hw_k (c := 1) (b := 0) (e := 1) (by decide +kernel) ?_
      exact hw_ret (a0 := 0) (e := 1) (by decide +kernel) (Or.inr ⟨rfl, by decide⟩) H
    · have H := H.2.2.2.1 hm
      refine hr_ala (a0 := 0) (e := 0) (n := 8) (w := 137) 109 rfl (by decide +kernel) hl2 hu2 ((hf_up_ne (fun q => absurd q.1 (by decide))).trans hm) ?_
      refine hr_call (a0 := 14) (b := 66) (e := 2) (nl := 2) (As := [(2, 137)]) (R := []) 17 rfl (by decide +kernel) rfl rfl (Nat.le_of_ble_eq_true rfl) (Nat.le_of_ble_eq_true rfl) ?_
      refine hw_mono H ?_
      rintro r ψ9 y9 ⟨hyx, hr, H⟩
      subst hyx
      subst hr
      refine ⟨hnen, ?_⟩
      show hw sc (d + 1) 95 32 [(0, (2, 108)), (1, (2, 17))] [] ψ9 y9 Q
      refine hw_k (c := 1) (b := 0) (e := 1) (by decide +kernel) ?_
      exact hw_ret (a0 := 0) (e := 1) (by decide +kernel) (Or.inr ⟨rfl, by decide⟩) H
    · have H := H.2.2.2.2.1 hm
      refine hr_ala (a0 := 0) (e := 0) (n := 8) (w := 146) 109 rfl (by decide +kernel) hl2 hu2 ((hf_up_ne (fun q => absurd q.1 (by decide))).trans hm) ?_
      refine hr_call (a0 := 14) (b := 66) (e := 2) (nl := 2) (As := [(2, 146)]) (R := []) 17 rfl (by decide +kernel) rfl rfl (Nat.le_of_ble_eq_true rfl) (Nat.le_of_ble_eq_true rfl) ?_
      refine hw_mono H ?_
      rintro r ψ11 y11 ⟨hyx, hr, H⟩
      subst hyx
      subst hr
      refine ⟨hnen, ?_⟩
      show hw sc (d + 1) 95 32 [(0, (2, 108)), (1, (2, 17))] [] ψ11 y11 Q
      refine hw_k (c := 1) (b := 0) (e := 1) (by decide +kernel) ?_
      exact hw_ret (a0 := 0) (e := 1) (by decide +kernel) (Or.inr ⟨rfl, by decide⟩) H
    · have H := H.2.2.2.2.2.1 hm
      refine hr_ala (a0 := 0) (e := 0) (n := 8) (w := 155) 109 rfl (by decide +kernel) hl2 hu2 ((hf_up_ne (fun q => absurd q.1 (by decide))).trans hm) ?_
      refine hr_call (a0 := 14) (b := 66) (e := 2) (nl := 2) (As := [(2, 155)]) (R := []) 17 rfl (by decide +kernel) rfl rfl (Nat.le_of_ble_eq_true rfl) (Nat.le_of_ble_eq_true rfl) ?_
      refine hw_mono H ?_
      rintro r ψ13 y13 ⟨hyx, hr, H⟩
      subst hyx
      subst hr
      refine ⟨hnen, ?_⟩
      show hw sc (d + 1) 95 32 [(0, (2, 108)), (1, (2, 17))] [] ψ13 y13 Q
      refine hw_k (c := 1) (b := 0) (e := 1) (by decide +kernel) ?_
      exact hw_ret (a0 := 0) (e := 1) (by decide +kernel) (Or.inr ⟨rfl, by decide⟩) H
    · have H := H.2.2.2.2.2.2.1 hm
      refine hr_ala (a0 := 0) (e := 0) (n := 8) (w := 164) 109 rfl (by decide +kernel) hl2 hu2 ((hf_up_ne (fun q => absurd q.1 (by decide))).trans hm) ?_
      refine hr_call (a0 := 14) (b := 66) (e := 2) (nl := 2) (As := [(2, 164)]) (R := []) 17 rfl (by decide +kernel) rfl rfl (Nat.le_of_ble_eq_true rfl) (Nat.le_of_ble_eq_true rfl) ?_
      refine hw_mono H ?_
      rintro r ψ15 y15 ⟨hyx, hr, H⟩
      subst hyx
      subst hr
      refine ⟨hnen, ?_⟩
      show hw sc (d + 1) 95 32 [(0, (2, 108)), (1, (2, 17))] [] ψ15 y15 Q
      refine hw_k (c := 1) (b := 0) (e := 1) (by decide +kernel) ?_
      exact hw_ret (a0 := 0) (e := 1) (by decide +kernel) (Or.inr ⟨rfl, by decide⟩) H
    · have H := H.2.2.2.2.2.2.2 hm
      refine hr_ala (a0 := 0) (e := 0) (n := 8) (w := 173) 109 rfl (by decide +kernel) hl2 hu2 ((hf_up_ne (fun q => absurd q.1 (by decide))).trans hm) ?_
      refine hr_call (a0 := 14) (b := 66) (e := 2) (nl := 2) (As := [(2, 173)]) (R := []) 17 rfl (by decide +kernel) rfl rfl (Nat.le_of_ble_eq_true rfl) (Nat.le_of_ble_eq_true rfl) ?_
      refine hw_mono H ?_
      rintro r ψ17 y17 ⟨hyx, hr, H⟩
      subst hyx
      subst hr
      refine ⟨hnen, ?_⟩
      show hw sc (d + 1) 95 32 [(0, (2, 108)), (1, (2, 17))] [] ψ17 y17 Q
      refine hw_k (c := 1) (b := 0) (e := 1) (by decide +kernel) ?_
      exact hw_ret (a0 := 0) (e := 1) (by decide +kernel) (Or.inr ⟨rfl, by decide⟩) H
  · have H := hf1 q
    refine hw_k (c := 0) (b := 0) (e := 1) (by decide +kernel) ?_
    exact hw_ret (a0 := 0) (e := 1) (by decide +kernel) (Or.inr ⟨rfl, by decide⟩) H
theorem sf_95_108_17 {sc : List Int} {d : Nat} {φ : hf_F} {x : Nat} {Q : Option jm_V → hf_F → Nat → Prop}  (hI : Inv φ)  (hQ : ∀ (r : Int) (ψ : hf_F), Inv ψ → Fr [18, 19, 20, 21, 22, 23, 24, 25, 18000, 18001, 18002, 18003, 18004, 18005, 109001] φ ψ → 0 ≤ r ∧ r ≤ 1 → F_History_giveBack_108_17 φ = (r, ψ) → Q (some (0, r)) ψ x) : hw sc (d + 1) 95 0 [(0, (2, 108)), (1, (2, 17))] [] φ x Q := by
  apply sf_95_108_17_v
  have e0 : F_History_giveBack_108_17 φ = _ := rfl
  have f1 := iv_at (a := 108) (k := 1) (lo := 0) (u := 8) hI (by decide +kernel)
  refine ⟨by unfold hi; omega, fun q1 => ?_, fun q1 => ?_⟩
  · skip
    have e1a := e0.trans (if_pos q1)
    have i2 : Inv (hf_up φ 108 1 ((φ 108 1) - 1)) := iv_up (lo := 0) (u := 8) hI (by decide +kernel) (by omega) (by omega)
    have r2 : Fr [18, 19, 20, 21, 22, 23, 24, 25, 18000, 18001, 18002, 18003, 18004, 18005, 109001] φ (hf_up φ 108 1 ((φ 108 1) - 1)) := fr_up (fr_rf) (by decide)
    refine ⟨by omega, by omega, (by rw [← show (hf_up φ 108 1 ((φ 108 1) - 1)) 109 (((φ 108 1) - 1).toNat) = φ 109 (((φ 108 1) - 1).toNat) from (hf_up_ne (fun q => absurd q.1 (by decide)))]; exact iv_bf i2 (by omega) (by omega)), fun qm => ?_, fun qm => ?_, fun qm => ?_, fun qm => ?_, fun qm => ?_, fun qm => ?_, fun qm => ?_, fun qm => ?_⟩
    · skip
      have e2_0 := (e1a).trans (if_pos qm)
      refine sf_66_17_110 (φ := (hf_up φ 108 1 ((φ 108 1) - 1))) i2  (fun ψ3 hI3 hF3 hE3 => ⟨rfl, rfl, ?_⟩)
      have hG3 : Fr [18, 19, 20, 21, 22, 23, 24, 25, 18000, 18001, 18002, 18003, 18004, 18005, 109001] φ ψ3 := fr_tr r2 hF3 (by decide)
      have e3 := e2_0.trans (bnv_e hE3)
      exact hQ 1 ψ3 hI3 hG3 ⟨by omega, by omega⟩ e3
    · skip
      have e2_1 := ((e1a).trans (if_neg (by omega))).trans (if_pos qm)
      refine sf_66_17_119 (φ := (hf_up φ 108 1 ((φ 108 1) - 1))) i2  (fun ψ5 hI5 hF5 hE5 => ⟨rfl, rfl, ?_⟩)
      have hG5 : Fr [18, 19, 20, 21, 22, 23, 24, 25, 18000, 18001, 18002, 18003, 18004, 18005, 109001] φ ψ5 := fr_tr r2 hF5 (by decide)
      have e5 := e2_1.trans (bnv_e hE5)
      exact hQ 1 ψ5 hI5 hG5 ⟨by omega, by omega⟩ e5
    · skip
      have e2_2 := (((e1a).trans (if_neg (by omega))).trans (if_neg (by omega))).trans (if_pos qm)
      refine sf_66_17_128 (φ := (hf_up φ 108 1 ((φ 108 1) - 1))) i2  (fun ψ7 hI7 hF7 hE7 => ⟨rfl, rfl, ?_⟩)
      have hG7 : Fr [18, 19, 20, 21, 22, 23, 24, 25, 18000, 18001, 18002, 18003, 18004, 18005, 109001] φ ψ7 := fr_tr r2 hF7 (by decide)
      have e7 := e2_2.trans (bnv_e hE7)
      exact hQ 1 ψ7 hI7 hG7 ⟨by omega, by omega⟩ e7
    · skip
      have e2_3 := ((((e1a).trans (if_neg (by omega))).trans (if_neg (by omega))).trans (if_neg (by omega))).trans (if_pos qm)
      refine sf_66_17_137 (φ := (hf_up φ 108 1 ((φ 108 1) - 1))) i2  (fun ψ9 hI9 hF9 hE9 => ⟨rfl, rfl, ?_⟩)
      have hG9 : Fr [18, 19, 20, 21, 22, 23, 24, 25, 18000, 18001, 18002, 18003, 18004, 18005, 109001] φ ψ9 := fr_tr r2 hF9 (by decide)
      have e9 := e2_3.trans (bnv_e hE9)
      exact hQ 1 ψ9 hI9 hG9 ⟨by omega, by omega⟩ e9
    · skip
      have e2_4 := (((((e1a).trans (if_neg (by omega))).trans (if_neg (by omega))).trans (if_neg (by omega))).trans (if_neg (by omega))).trans (if_pos qm)
      refine sf_66_17_146 (φ := (hf_up φ 108 1 ((φ 108 1) - 1))) i2  (fun ψ11 hI11 hF11 hE11 => ⟨rfl, rfl, ?_⟩)
      have hG11 : Fr [18, 19, 20, 21, 22, 23, 24, 25, 18000, 18001, 18002, 18003, 18004, 18005, 109001] φ ψ11 := fr_tr r2 hF11 (by decide)
      have e11 := e2_4.trans (bnv_e hE11)
      exact hQ 1 ψ11 hI11 hG11 ⟨by omega, by omega⟩ e11
    · skip
      have e2_5 := ((((((e1a).trans (if_neg (by omega))).trans (if_neg (by omega))).trans (if_neg (by omega))).trans (if_neg (by omega))).trans (if_neg (by omega))).trans (if_pos qm)
      refine sf_66_17_155 (φ := (hf_up φ 108 1 ((φ 108 1) - 1))) i2  (fun ψ13 hI13 hF13 hE13 => ⟨rfl, rfl, ?_⟩)
      have hG13 : Fr [18, 19, 20, 21, 22, 23, 24, 25, 18000, 18001, 18002, 18003, 18004, 18005, 109001] φ ψ13 := fr_tr r2 hF13 (by decide)
      have e13 := e2_5.trans (bnv_e hE13)
      exact hQ 1 ψ13 hI13 hG13 ⟨by omega, by omega⟩ e13
    · skip
      have e2_6 := (((((((e1a).trans (if_neg (by omega))).trans (if_neg (by omega))).trans (if_neg (by omega))).trans (if_neg (by omega))).trans (if_neg (by omega))).trans (if_neg (by omega))).trans (if_pos qm)
      refine sf_66_17_164 (φ := (hf_up φ 108 1 ((φ 108 1) - 1))) i2  (fun ψ15 hI15 hF15 hE15 => ⟨rfl, rfl, ?_⟩)
      have hG15 : Fr [18, 19, 20, 21, 22, 23, 24, 25, 18000, 18001, 18002, 18003, 18004, 18005, 109001] φ ψ15 := fr_tr r2 hF15 (by decide)
      have e15 := e2_6.trans (bnv_e hE15)
      exact hQ 1 ψ15 hI15 hG15 ⟨by omega, by omega⟩ e15
    · skip
      have e2_7 := (((((((e1a).trans (if_neg (by omega))).trans (if_neg (by omega))).trans (if_neg (by omega))).trans (if_neg (by omega))).trans (if_neg (by omega))).trans (if_neg (by omega))).trans (if_neg (by omega))
      refine sf_66_17_173 (φ := (hf_up φ 108 1 ((φ 108 1) - 1))) i2  (fun ψ17 hI17 hF17 hE17 => ⟨rfl, rfl, ?_⟩)
      have hG17 : Fr [18, 19, 20, 21, 22, 23, 24, 25, 18000, 18001, 18002, 18003, 18004, 18005, 109001] φ ψ17 := fr_tr r2 hF17 (by decide)
      have e17 := e2_7.trans (bnv_e hE17)
      exact hQ 1 ψ17 hI17 hG17 ⟨by omega, by omega⟩ e17
  · skip
    have e1b := e0.trans (if_neg q1)
    exact hQ 0 φ hI (fr_rf) ⟨by omega, by omega⟩ e1b
theorem sf_94_0_v {sc : List Int} {d : Nat} {φ : hf_F} {x : Nat} {Q : Option jm_V → hf_F → Nat → Prop} 
    (H : hw sc (d + 1) 95 0 [(0, (2, 108)), (1, (2, 17))] [] φ x (fun r ψ1 y1 => y1 = x ∧ (∃ z1 : Int, r = some (0, z1) ∧ (hi z1 ∧ (¬ z1 = 0 → Q (some (0, ψ1 108 1)) ψ1 x) ∧ (¬ (¬ z1 = 0) → Q (some (0, (-1 : Int))) ψ1 x))))) :
    hw sc (d + 2) 94 0 [(0, (2, 0))] [] φ x Q := by
  refine hw_ald (b := 0) (e := 0) (by decide +kernel) rfl (by decide) ?_
  refine hr_gr (w := 108) (b := 0) (e := 5) 0 rfl (by decide +kernel) ?_
  refine hw_ald (b := 0) (e := 0) (by decide +kernel) rfl (by decide) ?_
  refine hr_gr (w := 4) (b := 0) (e := 1) 0 rfl (by decide +kernel) ?_
  refine hr_gr (w := 17) (b := 2) (e := 1) 4 rfl (by decide +kernel) ?_
  refine hr_call (a0 := 16) (b := 95) (e := 2) (nl := 2) (As := [(2, 17)]) (R := []) 108 rfl (by decide +kernel) rfl rfl (Nat.le_of_ble_eq_true rfl) (Nat.le_of_ble_eq_true rfl) ?_
  refine hw_mono H ?_
  rintro r ψ1 y1 ⟨hyx, z1, hr, H⟩
  subst hyx
  subst hr
  refine ⟨hne0, ?_⟩
  show hw sc (d + 2) 94 14 [(0, (2, 0))] [(0, z1)] ψ1 y1 Q
  obtain ⟨hz2, ht2, hf2⟩ := H
  refine hw_if (a0 := 0) (b := 1) (e := 19) (by decide +kernel) hz2 (fun q => ?_) (fun q => ?_)
  · have H := ht2 q
    refine hw_ald (b := 0) (e := 0) (by decide +kernel) rfl (by decide) ?_
    refine hr_gr (w := 108) (b := 0) (e := 5) 0 rfl (by decide +kernel) ?_
    refine hr_gi (w := ψ1 108 1) (b := 6) (e := 1) 108 rfl (by decide +kernel) rfl ?_
    exact hw_ret (a0 := 0) (e := 0) (by decide +kernel) (Or.inl rfl) H
  · have H := hf2 q
    refine hw_k (c := (-1 : Int)) (b := 0) (e := 1) (by decide +kernel) ?_
    exact hw_ret (a0 := 0) (e := 0) (by decide +kernel) (Or.inl rfl) H
theorem sf_94_0 {sc : List Int} {d : Nat} {φ : hf_F} {x : Nat} {Q : Option jm_V → hf_F → Nat → Prop}  (hI : Inv φ)  (hQ : ∀ (r : Int) (ψ : hf_F), Inv ψ → Fr [18, 19, 20, 21, 22, 23, 24, 25, 18000, 18001, 18002, 18003, 18004, 18005, 109001] φ ψ → True → F_RideLaws_undo_0 φ = (r, ψ) → Q (some (0, r)) ψ x) : hw sc (d + 2) 94 0 [(0, (2, 0))] [] φ x Q := by
  apply sf_94_0_v
  have e0 : F_RideLaws_undo_0 φ = _ := rfl
  refine sf_95_108_17 (φ := φ) hI  (fun z1 ψ1 hI1 hF1 hp1 hE1 => ⟨rfl, z1, rfl, ?_⟩)
  have hG1 : Fr [18, 19, 20, 21, 22, 23, 24, 25, 18000, 18001, 18002, 18003, 18004, 18005, 109001] φ ψ1 := fr_tr (fr_rf) hF1 (by decide)
  have e1 := e0.trans (bnd_e hE1)
  refine ⟨by unfold hi; omega, fun q2 => ?_, fun q2 => ?_⟩
  · skip
    have e2a := e1.trans (if_pos q2)
    have f1 := iv_at (a := 108) (k := 1) (lo := 0) (u := 8) hI1 (by decide +kernel)
    exact hQ (ψ1 108 1) ψ1 hI1 hG1 trivial e2a
  · skip
    have e2b := e1.trans (if_neg q2)
    exact hQ (-1 : Int) ψ1 hI1 hG1 trivial e2b
theorem sf_65_83_5_v {sc : List Int} {d : Nat} {φ : hf_F} {x : Nat} {Q : Option jm_V → hf_F → Nat → Prop} 
    (H : Q none (hf_cp (hf_cp (hf_cp (hf_cp (hf_cp (hf_cp (hf_cp (hf_cp (hf_cp (hf_cp (hf_cp φ 6 84 5) 7 85 40) 8 86 3) 9 87 3) 10 88 8) 11 89 8) 12 90 8) 13 91 8) 14 92 8) 15 93 8) 16 94 64) x) :
    hw sc d 65 0 [(0, (2, 83)), (1, (2, 5))] [] φ x Q := by
  refine hw_ald (b := 1) (e := 0) (by decide +kernel) rfl (by decide) ?_
  refine hr_gr (w := 6) (b := 3) (e := 0) 5 rfl (by decide +kernel) ?_
  refine hw_k (c := 0) (b := 0) (e := 1) (by decide +kernel) ?_
  refine hw_ald (b := 0) (e := 0) (by decide +kernel) rfl (by decide) ?_
  refine hr_gr (w := 84) (b := 3) (e := 0) 83 rfl (by decide +kernel) ?_
  refine hw_k (c := 0) (b := 0) (e := 1) (by decide +kernel) ?_
  refine hw_k (c := 5) (b := 0) (e := 1) (by decide +kernel) ?_
  refine hr_cp (a0 := 0) (b0 := 0) (e := 0) 6 84 5 rfl rfl rfl (by decide +kernel) (Nat.le_of_ble_eq_true rfl) ?_
  refine hw_ald (b := 1) (e := 0) (by decide +kernel) rfl (by decide) ?_
  refine hr_gr (w := 7) (b := 3) (e := 1) 5 rfl (by decide +kernel) ?_
  refine hw_k (c := 0) (b := 0) (e := 1) (by decide +kernel) ?_
  refine hw_ald (b := 0) (e := 0) (by decide +kernel) rfl (by decide) ?_
  refine hr_gr (w := 85) (b := 3) (e := 1) 83 rfl (by decide +kernel) ?_
  refine hw_k (c := 0) (b := 0) (e := 1) (by decide +kernel) ?_
  refine hw_k (c := 40) (b := 1) (e := 2) (by decide +kernel) ?_
  refine hr_cp (a0 := 0) (b0 := 0) (e := 0) 7 85 40 rfl rfl rfl (by decide +kernel) (Nat.le_of_ble_eq_true rfl) ?_
  refine hw_ald (b := 1) (e := 0) (by decide +kernel) rfl (by decide) ?_
  refine hr_gr (w := 8) (b := 3) (e := 2) 5 rfl (by decide +kernel) ?_
  refine hw_k (c := 0) (b := 0) (e := 1) (by decide +kernel) ?_
  refine hw_ald (b := 0) (e := 0) (by decide +kernel) rfl (by decide) ?_
  refine hr_gr (w := 86) (b := 3) (e := 2) 83 rfl (by decide +kernel) ?_
  refine hw_k (c := 0) (b := 0) (e := 1) (by decide +kernel) ?_
  refine hw_k (c := 3) (b := 0) (e := 1) (by decide +kernel) ?_
  refine hr_cp (a0 := 0) (b0 := 0) (e := 0) 8 86 3 rfl rfl rfl (by decide +kernel) (Nat.le_of_ble_eq_true rfl) ?_
  refine hw_ald (b := 1) (e := 0) (by decide +kernel) rfl (by decide) ?_
  refine hr_gr (w := 9) (b := 3) (e := 3) 5 rfl (by decide +kernel) ?_
  refine hw_k (c := 0) (b := 0) (e := 1) (by decide +kernel) ?_
  refine hw_ald (b := 0) (e := 0) (by decide +kernel) rfl (by decide) ?_
  refine hr_gr (w := 87) (b := 3) (e := 3) 83 rfl (by decide +kernel) ?_
  refine hw_k (c := 0) (b := 0) (e := 1) (by decide +kernel) ?_
  refine hw_k (c := 3) (b := 0) (e := 1) (by decide +kernel) ?_
  refine hr_cp (a0 := 0) (b0 := 0) (e := 0) 9 87 3 rfl rfl rfl (by decide +kernel) (Nat.le_of_ble_eq_true rfl) ?_
  refine hw_ald (b := 1) (e := 0) (by decide +kernel) rfl (by decide) ?_
  refine hr_gr (w := 10) (b := 3) (e := 4) 5 rfl (by decide +kernel) ?_
  refine hw_k (c := 0) (b := 0) (e := 1) (by decide +kernel) ?_
  refine hw_ald (b := 0) (e := 0) (by decide +kernel) rfl (by decide) ?_
  refine hr_gr (w := 88) (b := 3) (e := 4) 83 rfl (by decide +kernel) ?_
  refine hw_k (c := 0) (b := 0) (e := 1) (by decide +kernel) ?_
  refine hw_k (c := 8) (b := 1) (e := 2) (by decide +kernel) ?_
  refine hr_cp (a0 := 0) (b0 := 0) (e := 0) 10 88 8 rfl rfl rfl (by decide +kernel) (Nat.le_of_ble_eq_true rfl) ?_
  refine hw_ald (b := 1) (e := 0) (by decide +kernel) rfl (by decide) ?_
  refine hr_gr (w := 11) (b := 3) (e := 5) 5 rfl (by decide +kernel) ?_
  refine hw_k (c := 0) (b := 0) (e := 1) (by decide +kernel) ?_
  refine hw_ald (b := 0) (e := 0) (by decide +kernel) rfl (by decide) ?_
  refine hr_gr (w := 89) (b := 3) (e := 5) 83 rfl (by decide +kernel) ?_
  refine hw_k (c := 0) (b := 0) (e := 1) (by decide +kernel) ?_
  refine hw_k (c := 8) (b := 1) (e := 2) (by decide +kernel) ?_
  refine hr_cp (a0 := 0) (b0 := 0) (e := 0) 11 89 8 rfl rfl rfl (by decide +kernel) (Nat.le_of_ble_eq_true rfl) ?_
  refine hw_ald (b := 1) (e := 0) (by decide +kernel) rfl (by decide) ?_
  refine hr_gr (w := 12) (b := 3) (e := 6) 5 rfl (by decide +kernel) ?_
  refine hw_k (c := 0) (b := 0) (e := 1) (by decide +kernel) ?_
  refine hw_ald (b := 0) (e := 0) (by decide +kernel) rfl (by decide) ?_
  refine hr_gr (w := 90) (b := 3) (e := 6) 83 rfl (by decide +kernel) ?_
  refine hw_k (c := 0) (b := 0) (e := 1) (by decide +kernel) ?_
  refine hw_k (c := 8) (b := 1) (e := 2) (by decide +kernel) ?_
  refine hr_cp (a0 := 0) (b0 := 0) (e := 0) 12 90 8 rfl rfl rfl (by decide +kernel) (Nat.le_of_ble_eq_true rfl) ?_
  refine hw_ald (b := 1) (e := 0) (by decide +kernel) rfl (by decide) ?_
  refine hr_gr (w := 13) (b := 3) (e := 7) 5 rfl (by decide +kernel) ?_
  refine hw_k (c := 0) (b := 0) (e := 1) (by decide +kernel) ?_
  refine hw_ald (b := 0) (e := 0) (by decide +kernel) rfl (by decide) ?_
  refine hr_gr (w := 91) (b := 3) (e := 7) 83 rfl (by decide +kernel) ?_
  refine hw_k (c := 0) (b := 0) (e := 1) (by decide +kernel) ?_
  refine hw_k (c := 8) (b := 1) (e := 2) (by decide +kernel) ?_
  refine hr_cp (a0 := 0) (b0 := 0) (e := 0) 13 91 8 rfl rfl rfl (by decide +kernel) (Nat.le_of_ble_eq_true rfl) ?_
  refine hw_ald (b := 1) (e := 0) (by decide +kernel) rfl (by decide) ?_
  refine hr_gr (w := 14) (b := 3) (e := 8) 5 rfl (by decide +kernel) ?_
  refine hw_k (c := 0) (b := 0) (e := 1) (by decide +kernel) ?_
  refine hw_ald (b := 0) (e := 0) (by decide +kernel) rfl (by decide) ?_
  refine hr_gr (w := 92) (b := 3) (e := 8) 83 rfl (by decide +kernel) ?_
  refine hw_k (c := 0) (b := 0) (e := 1) (by decide +kernel) ?_
  refine hw_k (c := 8) (b := 1) (e := 2) (by decide +kernel) ?_
  refine hr_cp (a0 := 0) (b0 := 0) (e := 0) 14 92 8 rfl rfl rfl (by decide +kernel) (Nat.le_of_ble_eq_true rfl) ?_
  refine hw_ald (b := 1) (e := 0) (by decide +kernel) rfl (by decide) ?_
  refine hr_gr (w := 15) (b := 3) (e := 9) 5 rfl (by decide +kernel) ?_
  refine hw_k (c := 0) (b := 0) (e := 1) (by decide +kernel) ?_
  refine hw_ald (b := 0) (e := 0) (by decide +kernel) rfl (by decide) ?_
  refine hr_gr (w := 93) (b := 3) (e := 9) 83 rfl (by decide +kernel) ?_
  refine hw_k (c := 0) (b := 0) (e := 1) (by decide +kernel) ?_
  refine hw_k (c := 8) (b := 1) (e := 2) (by decide +kernel) ?_
  refine hr_cp (a0 := 0) (b0 := 0) (e := 0) 15 93 8 rfl rfl rfl (by decide +kernel) (Nat.le_of_ble_eq_true rfl) ?_
  refine hw_ald (b := 1) (e := 0) (by decide +kernel) rfl (by decide) ?_
  refine hr_gr (w := 16) (b := 3) (e := 10) 5 rfl (by decide +kernel) ?_
  refine hw_k (c := 0) (b := 0) (e := 1) (by decide +kernel) ?_
  refine hw_ald (b := 0) (e := 0) (by decide +kernel) rfl (by decide) ?_
  refine hr_gr (w := 94) (b := 3) (e := 10) 83 rfl (by decide +kernel) ?_
  refine hw_k (c := 0) (b := 0) (e := 1) (by decide +kernel) ?_
  refine hw_k (c := 64) (b := 1) (e := 2) (by decide +kernel) ?_
  refine hr_cp (a0 := 0) (b0 := 0) (e := 0) 16 94 64 rfl rfl rfl (by decide +kernel) (Nat.le_of_ble_eq_true rfl) ?_
  exact hw_vret (a0 := 0) (e := 0) (by decide +kernel) H
theorem sf_65_83_5 {sc : List Int} {d : Nat} {φ : hf_F} {x : Nat} {Q : Option jm_V → hf_F → Nat → Prop}  (hI : Inv φ)  (hQ : ∀ ψ : hf_F, Inv ψ → Fr [84, 85, 86, 87, 88, 89, 90, 91, 92, 93, 94] φ ψ → F_Plan_copyFrom_83_5 φ = ψ → Q none ψ x) : hw sc d 65 0 [(0, (2, 83)), (1, (2, 5))] [] φ x Q := by
  apply sf_65_83_5_v
  have e0 : F_Plan_copyFrom_83_5 φ = _ := rfl
  have i1 : Inv (hf_cp φ 6 84 5) := iv_cp hI (by decide) (by decide +kernel)
  have r1 : Fr [84, 85, 86, 87, 88, 89, 90, 91, 92, 93, 94] φ (hf_cp φ 6 84 5) := fr_cp (fr_rf) (by decide)
  have i2 : Inv (hf_cp (hf_cp φ 6 84 5) 7 85 40) := iv_cp i1 (by decide) (by decide +kernel)
  have r2 : Fr [84, 85, 86, 87, 88, 89, 90, 91, 92, 93, 94] φ (hf_cp (hf_cp φ 6 84 5) 7 85 40) := fr_cp r1 (by decide)
  have i3 : Inv (hf_cp (hf_cp (hf_cp φ 6 84 5) 7 85 40) 8 86 3) := iv_cp i2 (by decide) (by decide +kernel)
  have r3 : Fr [84, 85, 86, 87, 88, 89, 90, 91, 92, 93, 94] φ (hf_cp (hf_cp (hf_cp φ 6 84 5) 7 85 40) 8 86 3) := fr_cp r2 (by decide)
  have i4 : Inv (hf_cp (hf_cp (hf_cp (hf_cp φ 6 84 5) 7 85 40) 8 86 3) 9 87 3) := iv_cp i3 (by decide) (by decide +kernel)
  have r4 : Fr [84, 85, 86, 87, 88, 89, 90, 91, 92, 93, 94] φ (hf_cp (hf_cp (hf_cp (hf_cp φ 6 84 5) 7 85 40) 8 86 3) 9 87 3) := fr_cp r3 (by decide)
  have i5 : Inv (hf_cp (hf_cp (hf_cp (hf_cp (hf_cp φ 6 84 5) 7 85 40) 8 86 3) 9 87 3) 10 88 8) := iv_cp i4 (by decide) (by decide +kernel)
  have r5 : Fr [84, 85, 86, 87, 88, 89, 90, 91, 92, 93, 94] φ (hf_cp (hf_cp (hf_cp (hf_cp (hf_cp φ 6 84 5) 7 85 40) 8 86 3) 9 87 3) 10 88 8) := fr_cp r4 (by decide)
  have i6 : Inv (hf_cp (hf_cp (hf_cp (hf_cp (hf_cp (hf_cp φ 6 84 5) 7 85 40) 8 86 3) 9 87 3) 10 88 8) 11 89 8) := iv_cp i5 (by decide) (by decide +kernel)
  have r6 : Fr [84, 85, 86, 87, 88, 89, 90, 91, 92, 93, 94] φ (hf_cp (hf_cp (hf_cp (hf_cp (hf_cp (hf_cp φ 6 84 5) 7 85 40) 8 86 3) 9 87 3) 10 88 8) 11 89 8) := fr_cp r5 (by decide)
  have i7 : Inv (hf_cp (hf_cp (hf_cp (hf_cp (hf_cp (hf_cp (hf_cp φ 6 84 5) 7 85 40) 8 86 3) 9 87 3) 10 88 8) 11 89 8) 12 90 8) := iv_cp i6 (by decide) (by decide +kernel)
  have r7 : Fr [84, 85, 86, 87, 88, 89, 90, 91, 92, 93, 94] φ (hf_cp (hf_cp (hf_cp (hf_cp (hf_cp (hf_cp (hf_cp φ 6 84 5) 7 85 40) 8 86 3) 9 87 3) 10 88 8) 11 89 8) 12 90 8) := fr_cp r6 (by decide)
  have i8 : Inv (hf_cp (hf_cp (hf_cp (hf_cp (hf_cp (hf_cp (hf_cp (hf_cp φ 6 84 5) 7 85 40) 8 86 3) 9 87 3) 10 88 8) 11 89 8) 12 90 8) 13 91 8) := iv_cp i7 (by decide) (by decide +kernel)
  have r8 : Fr [84, 85, 86, 87, 88, 89, 90, 91, 92, 93, 94] φ (hf_cp (hf_cp (hf_cp (hf_cp (hf_cp (hf_cp (hf_cp (hf_cp φ 6 84 5) 7 85 40) 8 86 3) 9 87 3) 10 88 8) 11 89 8) 12 90 8) 13 91 8) := fr_cp r7 (by decide)
  have i9 : Inv (hf_cp (hf_cp (hf_cp (hf_cp (hf_cp (hf_cp (hf_cp (hf_cp (hf_cp φ 6 84 5) 7 85 40) 8 86 3) 9 87 3) 10 88 8) 11 89 8) 12 90 8) 13 91 8) 14 92 8) := iv_cp i8 (by decide) (by decide +kernel)
  have r9 : Fr [84, 85, 86, 87, 88, 89, 90, 91, 92, 93, 94] φ (hf_cp (hf_cp (hf_cp (hf_cp (hf_cp (hf_cp (hf_cp (hf_cp (hf_cp φ 6 84 5) 7 85 40) 8 86 3) 9 87 3) 10 88 8) 11 89 8) 12 90 8) 13 91 8) 14 92 8) := fr_cp r8 (by decide)
  have i10 : Inv (hf_cp (hf_cp (hf_cp (hf_cp (hf_cp (hf_cp (hf_cp (hf_cp (hf_cp (hf_cp φ 6 84 5) 7 85 40) 8 86 3) 9 87 3) 10 88 8) 11 89 8) 12 90 8) 13 91 8) 14 92 8) 15 93 8) := iv_cp i9 (by decide) (by decide +kernel)
  have r10 : Fr [84, 85, 86, 87, 88, 89, 90, 91, 92, 93, 94] φ (hf_cp (hf_cp (hf_cp (hf_cp (hf_cp (hf_cp (hf_cp (hf_cp (hf_cp (hf_cp φ 6 84 5) 7 85 40) 8 86 3) 9 87 3) 10 88 8) 11 89 8) 12 90 8) 13 91 8) 14 92 8) 15 93 8) := fr_cp r9 (by decide)
  have i11 : Inv (hf_cp (hf_cp (hf_cp (hf_cp (hf_cp (hf_cp (hf_cp (hf_cp (hf_cp (hf_cp (hf_cp φ 6 84 5) 7 85 40) 8 86 3) 9 87 3) 10 88 8) 11 89 8) 12 90 8) 13 91 8) 14 92 8) 15 93 8) 16 94 64) := iv_cp i10 (by decide) (by decide +kernel)
  have r11 : Fr [84, 85, 86, 87, 88, 89, 90, 91, 92, 93, 94] φ (hf_cp (hf_cp (hf_cp (hf_cp (hf_cp (hf_cp (hf_cp (hf_cp (hf_cp (hf_cp (hf_cp φ 6 84 5) 7 85 40) 8 86 3) 9 87 3) 10 88 8) 11 89 8) 12 90 8) 13 91 8) 14 92 8) 15 93 8) 16 94 64) := fr_cp r10 (by decide)
  exact hQ (hf_cp (hf_cp (hf_cp (hf_cp (hf_cp (hf_cp (hf_cp (hf_cp (hf_cp (hf_cp (hf_cp φ 6 84 5) 7 85 40) 8 86 3) 9 87 3) 10 88 8) 11 89 8) 12 90 8) 13 91 8) 14 92 8) 15 93 8) 16 94 64) i11 r11 e0
theorem sf_66_95_17_v {sc : List Int} {d : Nat} {φ : hf_F} {x : Nat} {Q : Option jm_V → hf_F → Nat → Prop} 
    (H : Q none (hf_cp (hf_cp (hf_cp (hf_cp (hf_cp (hf_cp (hf_cp (hf_cp (hf_up (hf_up (hf_up (hf_up (hf_up (hf_up φ 95 0 (φ 17 0)) 95 1 (φ 17 1)) 95 2 (φ 17 2)) 95 3 (φ 17 3)) 95 4 (φ 17 4)) 95 5 (φ 17 5)) 18 96 8) 19 97 8) 20 98 6) 21 99 6) 22 100 36) 23 101 6) 24 102 6) 25 103 8) x) :
    hw sc d 66 0 [(0, (2, 95)), (1, (2, 17))] [] φ x Q := by
  refine hw_ald (b := 0) (e := 0) (by decide +kernel) rfl (by decide) ?_
  refine hw_ald (b := 1) (e := 0) (by decide +kernel) rfl (by decide) ?_
  refine hr_gi (w := φ 17 0) (b := 4) (e := 0) 17 rfl (by decide +kernel) rfl ?_
  refine hr_pi (b := 4) (e := 0) 95 rfl (by decide +kernel) ?_
  refine hw_ald (b := 0) (e := 0) (by decide +kernel) rfl (by decide) ?_
  refine hw_ald (b := 1) (e := 0) (by decide +kernel) rfl (by decide) ?_
  refine hr_gi (w := φ 17 1) (b := 4) (e := 1) 17 rfl (by decide +kernel) (hf_up_ne (fun q => absurd q.1 (by decide))) ?_
  refine hr_pi (b := 4) (e := 1) 95 rfl (by decide +kernel) ?_
  refine hw_ald (b := 0) (e := 0) (by decide +kernel) rfl (by decide) ?_
  refine hw_ald (b := 1) (e := 0) (by decide +kernel) rfl (by decide) ?_
  refine hr_gi (w := φ 17 2) (b := 4) (e := 2) 17 rfl (by decide +kernel) ((hf_up_ne (fun q => absurd q.1 (by decide))).trans (hf_up_ne (fun q => absurd q.1 (by decide)))) ?_
  refine hr_pi (b := 4) (e := 2) 95 rfl (by decide +kernel) ?_
  refine hw_ald (b := 0) (e := 0) (by decide +kernel) rfl (by decide) ?_
  refine hw_ald (b := 1) (e := 0) (by decide +kernel) rfl (by decide) ?_
  refine hr_gi (w := φ 17 3) (b := 4) (e := 3) 17 rfl (by decide +kernel) ((hf_up_ne (fun q => absurd q.1 (by decide))).trans ((hf_up_ne (fun q => absurd q.1 (by decide))).trans (hf_up_ne (fun q => absurd q.1 (by decide))))) ?_
  refine hr_pi (b := 4) (e := 3) 95 rfl (by decide +kernel) ?_
  refine hw_ald (b := 0) (e := 0) (by decide +kernel) rfl (by decide) ?_
  refine hw_ald (b := 1) (e := 0) (by decide +kernel) rfl (by decide) ?_
  refine hr_gi (w := φ 17 4) (b := 4) (e := 4) 17 rfl (by decide +kernel) ((hf_up_ne (fun q => absurd q.1 (by decide))).trans ((hf_up_ne (fun q => absurd q.1 (by decide))).trans ((hf_up_ne (fun q => absurd q.1 (by decide))).trans (hf_up_ne (fun q => absurd q.1 (by decide)))))) ?_
  refine hr_pi (b := 4) (e := 4) 95 rfl (by decide +kernel) ?_
  refine hw_ald (b := 0) (e := 0) (by decide +kernel) rfl (by decide) ?_
  refine hw_ald (b := 1) (e := 0) (by decide +kernel) rfl (by decide) ?_
  refine hr_gi (w := φ 17 5) (b := 4) (e := 5) 17 rfl (by decide +kernel) ((hf_up_ne (fun q => absurd q.1 (by decide))).trans ((hf_up_ne (fun q => absurd q.1 (by decide))).trans ((hf_up_ne (fun q => absurd q.1 (by decide))).trans ((hf_up_ne (fun q => absurd q.1 (by decide))).trans (hf_up_ne (fun q => absurd q.1 (by decide))))))) ?_
  refine hr_pi (b := 4) (e := 5) 95 rfl (by decide +kernel) ?_
  refine hw_ald (b := 1) (e := 0) (by decide +kernel) rfl (by decide) ?_
  refine hr_gr (w := 18) (b := 4) (e := 6) 17 rfl (by decide +kernel) ?_
  refine hw_k (c := 0) (b := 0) (e := 1) (by decide +kernel) ?_
  refine hw_ald (b := 0) (e := 0) (by decide +kernel) rfl (by decide) ?_
  refine hr_gr (w := 96) (b := 4) (e := 6) 95 rfl (by decide +kernel) ?_
  refine hw_k (c := 0) (b := 0) (e := 1) (by decide +kernel) ?_
  refine hw_k (c := 8) (b := 1) (e := 2) (by decide +kernel) ?_
  refine hr_cp (a0 := 0) (b0 := 0) (e := 0) 18 96 8 rfl rfl rfl (by decide +kernel) (Nat.le_of_ble_eq_true rfl) ?_
  refine hw_ald (b := 1) (e := 0) (by decide +kernel) rfl (by decide) ?_
  refine hr_gr (w := 19) (b := 4) (e := 7) 17 rfl (by decide +kernel) ?_
  refine hw_k (c := 0) (b := 0) (e := 1) (by decide +kernel) ?_
  refine hw_ald (b := 0) (e := 0) (by decide +kernel) rfl (by decide) ?_
  refine hr_gr (w := 97) (b := 4) (e := 7) 95 rfl (by decide +kernel) ?_
  refine hw_k (c := 0) (b := 0) (e := 1) (by decide +kernel) ?_
  refine hw_k (c := 8) (b := 1) (e := 2) (by decide +kernel) ?_
  refine hr_cp (a0 := 0) (b0 := 0) (e := 0) 19 97 8 rfl rfl rfl (by decide +kernel) (Nat.le_of_ble_eq_true rfl) ?_
  refine hw_ald (b := 1) (e := 0) (by decide +kernel) rfl (by decide) ?_
  refine hr_gr (w := 20) (b := 4) (e := 8) 17 rfl (by decide +kernel) ?_
  refine hw_k (c := 0) (b := 0) (e := 1) (by decide +kernel) ?_
  refine hw_ald (b := 0) (e := 0) (by decide +kernel) rfl (by decide) ?_
  refine hr_gr (w := 98) (b := 4) (e := 8) 95 rfl (by decide +kernel) ?_
  refine hw_k (c := 0) (b := 0) (e := 1) (by decide +kernel) ?_
  refine hw_k (c := 6) (b := 1) (e := 2) (by decide +kernel) ?_
  refine hr_cp (a0 := 0) (b0 := 0) (e := 0) 20 98 6 rfl rfl rfl (by decide +kernel) (Nat.le_of_ble_eq_true rfl) ?_
  refine hw_ald (b := 1) (e := 0) (by decide +kernel) rfl (by decide) ?_
  refine hr_gr (w := 21) (b := 4) (e := 9) 17 rfl (by decide +kernel) ?_
  refine hw_k (c := 0) (b := 0) (e := 1) (by decide +kernel) ?_
  refine hw_ald (b := 0) (e := 0) (by decide +kernel) rfl (by decide) ?_
  refine hr_gr (w := 99) (b := 4) (e := 9) 95 rfl (by decide +kernel) ?_
  refine hw_k (c := 0) (b := 0) (e := 1) (by decide +kernel) ?_
  refine hw_k (c := 6) (b := 1) (e := 2) (by decide +kernel) ?_
  refine hr_cp (a0 := 0) (b0 := 0) (e := 0) 21 99 6 rfl rfl rfl (by decide +kernel) (Nat.le_of_ble_eq_true rfl) ?_
  refine hw_ald (b := 1) (e := 0) (by decide +kernel) rfl (by decide) ?_
  refine hr_gr (w := 22) (b := 4) (e := 10) 17 rfl (by decide +kernel) ?_
  refine hw_k (c := 0) (b := 0) (e := 1) (by decide +kernel) ?_
  refine hw_ald (b := 0) (e := 0) (by decide +kernel) rfl (by decide) ?_
  refine hr_gr (w := 100) (b := 4) (e := 10) 95 rfl (by decide +kernel) ?_
  refine hw_k (c := 0) (b := 0) (e := 1) (by decide +kernel) ?_
  refine hw_k (c := 36) (b := 1) (e := 2) (by decide +kernel) ?_
  refine hr_cp (a0 := 0) (b0 := 0) (e := 0) 22 100 36 rfl rfl rfl (by decide +kernel) (Nat.le_of_ble_eq_true rfl) ?_
  refine hw_ald (b := 1) (e := 0) (by decide +kernel) rfl (by decide) ?_
  refine hr_gr (w := 23) (b := 4) (e := 11) 17 rfl (by decide +kernel) ?_
  refine hw_k (c := 0) (b := 0) (e := 1) (by decide +kernel) ?_
  refine hw_ald (b := 0) (e := 0) (by decide +kernel) rfl (by decide) ?_
  refine hr_gr (w := 101) (b := 4) (e := 11) 95 rfl (by decide +kernel) ?_
  refine hw_k (c := 0) (b := 0) (e := 1) (by decide +kernel) ?_
  refine hw_k (c := 6) (b := 1) (e := 2) (by decide +kernel) ?_
  refine hr_cp (a0 := 0) (b0 := 0) (e := 0) 23 101 6 rfl rfl rfl (by decide +kernel) (Nat.le_of_ble_eq_true rfl) ?_
  refine hw_ald (b := 1) (e := 0) (by decide +kernel) rfl (by decide) ?_
  refine hr_gr (w := 24) (b := 4) (e := 12) 17 rfl (by decide +kernel) ?_
  refine hw_k (c := 0) (b := 0) (e := 1) (by decide +kernel) ?_
  refine hw_ald (b := 0) (e := 0) (by decide +kernel) rfl (by decide) ?_
  refine hr_gr (w := 102) (b := 4) (e := 12) 95 rfl (by decide +kernel) ?_
  refine hw_k (c := 0) (b := 0) (e := 1) (by decide +kernel) ?_
  refine hw_k (c := 6) (b := 1) (e := 2) (by decide +kernel) ?_
  refine hr_cp (a0 := 0) (b0 := 0) (e := 0) 24 102 6 rfl rfl rfl (by decide +kernel) (Nat.le_of_ble_eq_true rfl) ?_
  refine hw_ald (b := 1) (e := 0) (by decide +kernel) rfl (by decide) ?_
  refine hr_gr (w := 25) (b := 4) (e := 13) 17 rfl (by decide +kernel) ?_
  refine hw_k (c := 0) (b := 0) (e := 1) (by decide +kernel) ?_
  refine hw_ald (b := 0) (e := 0) (by decide +kernel) rfl (by decide) ?_
  refine hr_gr (w := 103) (b := 4) (e := 13) 95 rfl (by decide +kernel) ?_
  refine hw_k (c := 0) (b := 0) (e := 1) (by decide +kernel) ?_
  refine hw_k (c := 8) (b := 1) (e := 2) (by decide +kernel) ?_
  refine hr_cp (a0 := 0) (b0 := 0) (e := 0) 25 103 8 rfl rfl rfl (by decide +kernel) (Nat.le_of_ble_eq_true rfl) ?_
  exact hw_vret (a0 := 0) (e := 0) (by decide +kernel) H
theorem sf_66_95_17 {sc : List Int} {d : Nat} {φ : hf_F} {x : Nat} {Q : Option jm_V → hf_F → Nat → Prop}  (hI : Inv φ)  (hQ : ∀ ψ : hf_F, Inv ψ → Fr [96, 97, 98, 99, 100, 101, 102, 103, 96000, 96001, 96002, 96003, 96004, 96005] φ ψ → F_State_copyFrom_95_17 φ = ψ → Q none ψ x) : hw sc d 66 0 [(0, (2, 95)), (1, (2, 17))] [] φ x Q := by
  apply sf_66_95_17_v
  have e0 : F_State_copyFrom_95_17 φ = _ := rfl
  have i1 : Inv (hf_up φ 95 0 (φ 17 0)) := iv_upn hI (by decide) (by decide) (by decide +kernel)
  have r1 : Fr [96, 97, 98, 99, 100, 101, 102, 103, 96000, 96001, 96002, 96003, 96004, 96005] φ (hf_up φ 95 0 (φ 17 0)) := fr_up (fr_rf) (by decide)
  have f2 := iv_at (a := 17) (k := 1) (lo := (-1 : Int)) (u := 7) hI (by decide +kernel)
  have i3 : Inv (hf_up (hf_up φ 95 0 (φ 17 0)) 95 1 (φ 17 1)) := iv_up (lo := (-1 : Int)) (u := 7) i1 (by decide +kernel) (by omega) (by omega)
  have r3 : Fr [96, 97, 98, 99, 100, 101, 102, 103, 96000, 96001, 96002, 96003, 96004, 96005] φ (hf_up (hf_up φ 95 0 (φ 17 0)) 95 1 (φ 17 1)) := fr_up r1 (by decide)
  have f4 := iv_at (a := 17) (k := 2) (lo := (-1 : Int)) (u := 5) hI (by decide +kernel)
  have i5 : Inv (hf_up (hf_up (hf_up φ 95 0 (φ 17 0)) 95 1 (φ 17 1)) 95 2 (φ 17 2)) := iv_up (lo := (-1 : Int)) (u := 5) i3 (by decide +kernel) (by omega) (by omega)
  have r5 : Fr [96, 97, 98, 99, 100, 101, 102, 103, 96000, 96001, 96002, 96003, 96004, 96005] φ (hf_up (hf_up (hf_up φ 95 0 (φ 17 0)) 95 1 (φ 17 1)) 95 2 (φ 17 2)) := fr_up r3 (by decide)
  have f6 := iv_at (a := 17) (k := 3) (lo := (-2147483648 : Int)) (u := 2147483647) hI (by decide +kernel)
  have i7 : Inv (hf_up (hf_up (hf_up (hf_up φ 95 0 (φ 17 0)) 95 1 (φ 17 1)) 95 2 (φ 17 2)) 95 3 (φ 17 3)) := iv_up (lo := (-2147483648 : Int)) (u := 2147483647) i5 (by decide +kernel) (by omega) (by omega)
  have r7 : Fr [96, 97, 98, 99, 100, 101, 102, 103, 96000, 96001, 96002, 96003, 96004, 96005] φ (hf_up (hf_up (hf_up (hf_up φ 95 0 (φ 17 0)) 95 1 (φ 17 1)) 95 2 (φ 17 2)) 95 3 (φ 17 3)) := fr_up r5 (by decide)
  have i8 : Inv (hf_up (hf_up (hf_up (hf_up (hf_up φ 95 0 (φ 17 0)) 95 1 (φ 17 1)) 95 2 (φ 17 2)) 95 3 (φ 17 3)) 95 4 (φ 17 4)) := iv_upn i7 (by decide) (by decide) (by decide +kernel)
  have r8 : Fr [96, 97, 98, 99, 100, 101, 102, 103, 96000, 96001, 96002, 96003, 96004, 96005] φ (hf_up (hf_up (hf_up (hf_up (hf_up φ 95 0 (φ 17 0)) 95 1 (φ 17 1)) 95 2 (φ 17 2)) 95 3 (φ 17 3)) 95 4 (φ 17 4)) := fr_up r7 (by decide)
  have i9 : Inv (hf_up (hf_up (hf_up (hf_up (hf_up (hf_up φ 95 0 (φ 17 0)) 95 1 (φ 17 1)) 95 2 (φ 17 2)) 95 3 (φ 17 3)) 95 4 (φ 17 4)) 95 5 (φ 17 5)) := iv_upn i8 (by decide) (by decide) (by decide +kernel)
  have r9 : Fr [96, 97, 98, 99, 100, 101, 102, 103, 96000, 96001, 96002, 96003, 96004, 96005] φ (hf_up (hf_up (hf_up (hf_up (hf_up (hf_up φ 95 0 (φ 17 0)) 95 1 (φ 17 1)) 95 2 (φ 17 2)) 95 3 (φ 17 3)) 95 4 (φ 17 4)) 95 5 (φ 17 5)) := fr_up r8 (by decide)
  have i10 : Inv (hf_cp (hf_up (hf_up (hf_up (hf_up (hf_up (hf_up φ 95 0 (φ 17 0)) 95 1 (φ 17 1)) 95 2 (φ 17 2)) 95 3 (φ 17 3)) 95 4 (φ 17 4)) 95 5 (φ 17 5)) 18 96 8) := iv_cp i9 (by decide) (by decide +kernel)
  have r10 : Fr [96, 97, 98, 99, 100, 101, 102, 103, 96000, 96001, 96002, 96003, 96004, 96005] φ (hf_cp (hf_up (hf_up (hf_up (hf_up (hf_up (hf_up φ 95 0 (φ 17 0)) 95 1 (φ 17 1)) 95 2 (φ 17 2)) 95 3 (φ 17 3)) 95 4 (φ 17 4)) 95 5 (φ 17 5)) 18 96 8) := fr_cp r9 (by decide)
  have i11 : Inv (hf_cp (hf_cp (hf_up (hf_up (hf_up (hf_up (hf_up (hf_up φ 95 0 (φ 17 0)) 95 1 (φ 17 1)) 95 2 (φ 17 2)) 95 3 (φ 17 3)) 95 4 (φ 17 4)) 95 5 (φ 17 5)) 18 96 8) 19 97 8) := iv_cp i10 (by decide) (by decide +kernel)
  have r11 : Fr [96, 97, 98, 99, 100, 101, 102, 103, 96000, 96001, 96002, 96003, 96004, 96005] φ (hf_cp (hf_cp (hf_up (hf_up (hf_up (hf_up (hf_up (hf_up φ 95 0 (φ 17 0)) 95 1 (φ 17 1)) 95 2 (φ 17 2)) 95 3 (φ 17 3)) 95 4 (φ 17 4)) 95 5 (φ 17 5)) 18 96 8) 19 97 8) := fr_cp r10 (by decide)
  have i12 : Inv (hf_cp (hf_cp (hf_cp (hf_up (hf_up (hf_up (hf_up (hf_up (hf_up φ 95 0 (φ 17 0)) 95 1 (φ 17 1)) 95 2 (φ 17 2)) 95 3 (φ 17 3)) 95 4 (φ 17 4)) 95 5 (φ 17 5)) 18 96 8) 19 97 8) 20 98 6) := iv_cp i11 (by decide) (by decide +kernel)
  have r12 : Fr [96, 97, 98, 99, 100, 101, 102, 103, 96000, 96001, 96002, 96003, 96004, 96005] φ (hf_cp (hf_cp (hf_cp (hf_up (hf_up (hf_up (hf_up (hf_up (hf_up φ 95 0 (φ 17 0)) 95 1 (φ 17 1)) 95 2 (φ 17 2)) 95 3 (φ 17 3)) 95 4 (φ 17 4)) 95 5 (φ 17 5)) 18 96 8) 19 97 8) 20 98 6) := fr_cp r11 (by decide)
  have i13 : Inv (hf_cp (hf_cp (hf_cp (hf_cp (hf_up (hf_up (hf_up (hf_up (hf_up (hf_up φ 95 0 (φ 17 0)) 95 1 (φ 17 1)) 95 2 (φ 17 2)) 95 3 (φ 17 3)) 95 4 (φ 17 4)) 95 5 (φ 17 5)) 18 96 8) 19 97 8) 20 98 6) 21 99 6) := iv_cp i12 (by decide) (by decide +kernel)
  have r13 : Fr [96, 97, 98, 99, 100, 101, 102, 103, 96000, 96001, 96002, 96003, 96004, 96005] φ (hf_cp (hf_cp (hf_cp (hf_cp (hf_up (hf_up (hf_up (hf_up (hf_up (hf_up φ 95 0 (φ 17 0)) 95 1 (φ 17 1)) 95 2 (φ 17 2)) 95 3 (φ 17 3)) 95 4 (φ 17 4)) 95 5 (φ 17 5)) 18 96 8) 19 97 8) 20 98 6) 21 99 6) := fr_cp r12 (by decide)
  have i14 : Inv (hf_cp (hf_cp (hf_cp (hf_cp (hf_cp (hf_up (hf_up (hf_up (hf_up (hf_up (hf_up φ 95 0 (φ 17 0)) 95 1 (φ 17 1)) 95 2 (φ 17 2)) 95 3 (φ 17 3)) 95 4 (φ 17 4)) 95 5 (φ 17 5)) 18 96 8) 19 97 8) 20 98 6) 21 99 6) 22 100 36) := iv_cp i13 (by decide) (by decide +kernel)
  have r14 : Fr [96, 97, 98, 99, 100, 101, 102, 103, 96000, 96001, 96002, 96003, 96004, 96005] φ (hf_cp (hf_cp (hf_cp (hf_cp (hf_cp (hf_up (hf_up (hf_up (hf_up (hf_up (hf_up φ 95 0 (φ 17 0)) 95 1 (φ 17 1)) 95 2 (φ 17 2)) 95 3 (φ 17 3)) 95 4 (φ 17 4)) 95 5 (φ 17 5)) 18 96 8) 19 97 8) 20 98 6) 21 99 6) 22 100 36) := fr_cp r13 (by decide)
  have i15 : Inv (hf_cp (hf_cp (hf_cp (hf_cp (hf_cp (hf_cp (hf_up (hf_up (hf_up (hf_up (hf_up (hf_up φ 95 0 (φ 17 0)) 95 1 (φ 17 1)) 95 2 (φ 17 2)) 95 3 (φ 17 3)) 95 4 (φ 17 4)) 95 5 (φ 17 5)) 18 96 8) 19 97 8) 20 98 6) 21 99 6) 22 100 36) 23 101 6) := iv_cp i14 (by decide) (by decide +kernel)
  have r15 : Fr [96, 97, 98, 99, 100, 101, 102, 103, 96000, 96001, 96002, 96003, 96004, 96005] φ (hf_cp (hf_cp (hf_cp (hf_cp (hf_cp (hf_cp (hf_up (hf_up (hf_up (hf_up (hf_up (hf_up φ 95 0 (φ 17 0)) 95 1 (φ 17 1)) 95 2 (φ 17 2)) 95 3 (φ 17 3)) 95 4 (φ 17 4)) 95 5 (φ 17 5)) 18 96 8) 19 97 8) 20 98 6) 21 99 6) 22 100 36) 23 101 6) := fr_cp r14 (by decide)
  have i16 : Inv (hf_cp (hf_cp (hf_cp (hf_cp (hf_cp (hf_cp (hf_cp (hf_up (hf_up (hf_up (hf_up (hf_up (hf_up φ 95 0 (φ 17 0)) 95 1 (φ 17 1)) 95 2 (φ 17 2)) 95 3 (φ 17 3)) 95 4 (φ 17 4)) 95 5 (φ 17 5)) 18 96 8) 19 97 8) 20 98 6) 21 99 6) 22 100 36) 23 101 6) 24 102 6) := iv_cp i15 (by decide) (by decide +kernel)
  have r16 : Fr [96, 97, 98, 99, 100, 101, 102, 103, 96000, 96001, 96002, 96003, 96004, 96005] φ (hf_cp (hf_cp (hf_cp (hf_cp (hf_cp (hf_cp (hf_cp (hf_up (hf_up (hf_up (hf_up (hf_up (hf_up φ 95 0 (φ 17 0)) 95 1 (φ 17 1)) 95 2 (φ 17 2)) 95 3 (φ 17 3)) 95 4 (φ 17 4)) 95 5 (φ 17 5)) 18 96 8) 19 97 8) 20 98 6) 21 99 6) 22 100 36) 23 101 6) 24 102 6) := fr_cp r15 (by decide)
  have i17 : Inv (hf_cp (hf_cp (hf_cp (hf_cp (hf_cp (hf_cp (hf_cp (hf_cp (hf_up (hf_up (hf_up (hf_up (hf_up (hf_up φ 95 0 (φ 17 0)) 95 1 (φ 17 1)) 95 2 (φ 17 2)) 95 3 (φ 17 3)) 95 4 (φ 17 4)) 95 5 (φ 17 5)) 18 96 8) 19 97 8) 20 98 6) 21 99 6) 22 100 36) 23 101 6) 24 102 6) 25 103 8) := iv_cp i16 (by decide) (by decide +kernel)
  have r17 : Fr [96, 97, 98, 99, 100, 101, 102, 103, 96000, 96001, 96002, 96003, 96004, 96005] φ (hf_cp (hf_cp (hf_cp (hf_cp (hf_cp (hf_cp (hf_cp (hf_cp (hf_up (hf_up (hf_up (hf_up (hf_up (hf_up φ 95 0 (φ 17 0)) 95 1 (φ 17 1)) 95 2 (φ 17 2)) 95 3 (φ 17 3)) 95 4 (φ 17 4)) 95 5 (φ 17 5)) 18 96 8) 19 97 8) 20 98 6) 21 99 6) 22 100 36) 23 101 6) 24 102 6) 25 103 8) := fr_cp r16 (by decide)
  exact hQ (hf_cp (hf_cp (hf_cp (hf_cp (hf_cp (hf_cp (hf_cp (hf_cp (hf_up (hf_up (hf_up (hf_up (hf_up (hf_up φ 95 0 (φ 17 0)) 95 1 (φ 17 1)) 95 2 (φ 17 2)) 95 3 (φ 17 3)) 95 4 (φ 17 4)) 95 5 (φ 17 5)) 18 96 8) 19 97 8) 20 98 6) 21 99 6) 22 100 36) 23 101 6) 24 102 6) 25 103 8) i17 r17 e0
theorem sf_67_104_26_v {sc : List Int} {d : Nat} {φ : hf_F} {x : Nat} {Q : Option jm_V → hf_F → Nat → Prop} 
    (H : ((φ 26 5) = 0 ∨ (φ 26 5) = 1) ∧ (Q none (hf_up (hf_up (hf_up (hf_cp (hf_cp (hf_cp φ 27 105 40) 28 106 40) 29 107 40) 104 3 (φ 26 3)) 104 4 (φ 26 4)) 104 5 (φ 26 5)) x)) :
    hw sc d 67 0 [(0, (2, 104)), (1, (2, 26))] [] φ x Q := by
  refine hw_ald (b := 1) (e := 0) (by decide +kernel) rfl (by decide) ?_
  refine hr_gr (w := 27) (b := 5) (e := 0) 26 rfl (by decide +kernel) ?_
  refine hw_k (c := 0) (b := 0) (e := 1) (by decide +kernel) ?_
  refine hw_ald (b := 0) (e := 0) (by decide +kernel) rfl (by decide) ?_
  refine hr_gr (w := 105) (b := 5) (e := 0) 104 rfl (by decide +kernel) ?_
  refine hw_k (c := 0) (b := 0) (e := 1) (by decide +kernel) ?_
  refine hw_k (c := 40) (b := 1) (e := 2) (by decide +kernel) ?_
  refine hr_cp (a0 := 0) (b0 := 0) (e := 0) 27 105 40 rfl rfl rfl (by decide +kernel) (Nat.le_of_ble_eq_true rfl) ?_
  refine hw_ald (b := 1) (e := 0) (by decide +kernel) rfl (by decide) ?_
  refine hr_gr (w := 28) (b := 5) (e := 1) 26 rfl (by decide +kernel) ?_
  refine hw_k (c := 0) (b := 0) (e := 1) (by decide +kernel) ?_
  refine hw_ald (b := 0) (e := 0) (by decide +kernel) rfl (by decide) ?_
  refine hr_gr (w := 106) (b := 5) (e := 1) 104 rfl (by decide +kernel) ?_
  refine hw_k (c := 0) (b := 0) (e := 1) (by decide +kernel) ?_
  refine hw_k (c := 40) (b := 1) (e := 2) (by decide +kernel) ?_
  refine hr_cp (a0 := 0) (b0 := 0) (e := 0) 28 106 40 rfl rfl rfl (by decide +kernel) (Nat.le_of_ble_eq_true rfl) ?_
  refine hw_ald (b := 1) (e := 0) (by decide +kernel) rfl (by decide) ?_
  refine hr_gr (w := 29) (b := 5) (e := 2) 26 rfl (by decide +kernel) ?_
  refine hw_k (c := 0) (b := 0) (e := 1) (by decide +kernel) ?_
  refine hw_ald (b := 0) (e := 0) (by decide +kernel) rfl (by decide) ?_
  refine hr_gr (w := 107) (b := 5) (e := 2) 104 rfl (by decide +kernel) ?_
  refine hw_k (c := 0) (b := 0) (e := 1) (by decide +kernel) ?_
  refine hw_k (c := 40) (b := 1) (e := 2) (by decide +kernel) ?_
  refine hr_cp (a0 := 0) (b0 := 0) (e := 0) 29 107 40 rfl rfl rfl (by decide +kernel) (Nat.le_of_ble_eq_true rfl) ?_
  refine hw_ald (b := 0) (e := 0) (by decide +kernel) rfl (by decide) ?_
  refine hw_ald (b := 1) (e := 0) (by decide +kernel) rfl (by decide) ?_
  refine hr_gi (w := φ 26 3) (b := 5) (e := 3) 26 rfl (by decide +kernel) ((hf_cp_ne (fun q => absurd q.1 (by decide))).trans ((hf_cp_ne (fun q => absurd q.1 (by decide))).trans (hf_cp_ne (fun q => absurd q.1 (by decide))))) ?_
  refine hr_pi (b := 5) (e := 3) 104 rfl (by decide +kernel) ?_
  refine hw_ald (b := 0) (e := 0) (by decide +kernel) rfl (by decide) ?_
  refine hw_ald (b := 1) (e := 0) (by decide +kernel) rfl (by decide) ?_
  refine hr_gi (w := φ 26 4) (b := 5) (e := 4) 26 rfl (by decide +kernel) ((hf_up_ne (fun q => absurd q.1 (by decide))).trans ((hf_cp_ne (fun q => absurd q.1 (by decide))).trans ((hf_cp_ne (fun q => absurd q.1 (by decide))).trans (hf_cp_ne (fun q => absurd q.1 (by decide)))))) ?_
  refine hr_pi (b := 5) (e := 4) 104 rfl (by decide +kernel) ?_
  refine hw_ald (b := 0) (e := 0) (by decide +kernel) rfl (by decide) ?_
  refine hw_ald (b := 1) (e := 0) (by decide +kernel) rfl (by decide) ?_
  refine hr_gz (w := φ 26 5) (b := 5) (e := 5) 26 rfl (by decide +kernel) ((hf_up_ne (fun q => absurd q.1 (by decide))).trans ((hf_up_ne (fun q => absurd q.1 (by decide))).trans ((hf_cp_ne (fun q => absurd q.1 (by decide))).trans ((hf_cp_ne (fun q => absurd q.1 (by decide))).trans (hf_cp_ne (fun q => absurd q.1 (by decide))))))) ?_
  obtain ⟨h01_1, H⟩ := H
  refine hr_pz (b := 5) (e := 5) 104 rfl (by decide +kernel) h01_1 ?_
  exact hw_vret (a0 := 0) (e := 0) (by decide +kernel) H
theorem sf_67_104_26 {sc : List Int} {d : Nat} {φ : hf_F} {x : Nat} {Q : Option jm_V → hf_F → Nat → Prop}  (hI : Inv φ)  (hQ : ∀ ψ : hf_F, Inv ψ → Fr [105, 106, 107, 105003, 105004, 105005] φ ψ → F_Sentence_copyFrom_104_26 φ = ψ → Q none ψ x) : hw sc d 67 0 [(0, (2, 104)), (1, (2, 26))] [] φ x Q := by
  apply sf_67_104_26_v
  have e0 : F_Sentence_copyFrom_104_26 φ = _ := rfl
  have i1 : Inv (hf_cp φ 27 105 40) := iv_cp hI (by decide) (by decide +kernel)
  have r1 : Fr [105, 106, 107, 105003, 105004, 105005] φ (hf_cp φ 27 105 40) := fr_cp (fr_rf) (by decide)
  have i2 : Inv (hf_cp (hf_cp φ 27 105 40) 28 106 40) := iv_cp i1 (by decide) (by decide +kernel)
  have r2 : Fr [105, 106, 107, 105003, 105004, 105005] φ (hf_cp (hf_cp φ 27 105 40) 28 106 40) := fr_cp r1 (by decide)
  have i3 : Inv (hf_cp (hf_cp (hf_cp φ 27 105 40) 28 106 40) 29 107 40) := iv_cp i2 (by decide) (by decide +kernel)
  have r3 : Fr [105, 106, 107, 105003, 105004, 105005] φ (hf_cp (hf_cp (hf_cp φ 27 105 40) 28 106 40) 29 107 40) := fr_cp r2 (by decide)
  have f4 := iv_at (a := 26) (k := 3) (lo := 0) (u := 40) hI (by decide +kernel)
  have i5 : Inv (hf_up (hf_cp (hf_cp (hf_cp φ 27 105 40) 28 106 40) 29 107 40) 104 3 (φ 26 3)) := iv_up (lo := 0) (u := 40) i3 (by decide +kernel) (by omega) (by omega)
  have r5 : Fr [105, 106, 107, 105003, 105004, 105005] φ (hf_up (hf_cp (hf_cp (hf_cp φ 27 105 40) 28 106 40) 29 107 40) 104 3 (φ 26 3)) := fr_up r3 (by decide)
  have f6 := iv_at (a := 26) (k := 4) (lo := 0) (u := 20) hI (by decide +kernel)
  have i7 : Inv (hf_up (hf_up (hf_cp (hf_cp (hf_cp φ 27 105 40) 28 106 40) 29 107 40) 104 3 (φ 26 3)) 104 4 (φ 26 4)) := iv_up (lo := 0) (u := 20) i5 (by decide +kernel) (by omega) (by omega)
  have r7 : Fr [105, 106, 107, 105003, 105004, 105005] φ (hf_up (hf_up (hf_cp (hf_cp (hf_cp φ 27 105 40) 28 106 40) 29 107 40) 104 3 (φ 26 3)) 104 4 (φ 26 4)) := fr_up r5 (by decide)
  have f8 := iv_at (a := 26) (k := 5) (lo := 0) (u := 1) hI (by decide +kernel)
  refine ⟨by omega, ?_⟩
  have i9 : Inv (hf_up (hf_up (hf_up (hf_cp (hf_cp (hf_cp φ 27 105 40) 28 106 40) 29 107 40) 104 3 (φ 26 3)) 104 4 (φ 26 4)) 104 5 (φ 26 5)) := iv_up (lo := 0) (u := 1) i7 (by decide +kernel) (by omega) (by omega)
  have r9 : Fr [105, 106, 107, 105003, 105004, 105005] φ (hf_up (hf_up (hf_up (hf_cp (hf_cp (hf_cp φ 27 105 40) 28 106 40) 29 107 40) 104 3 (φ 26 3)) 104 4 (φ 26 4)) 104 5 (φ 26 5)) := fr_up r7 (by decide)
  exact hQ (hf_up (hf_up (hf_up (hf_cp (hf_cp (hf_cp φ 27 105 40) 28 106 40) 29 107 40) 104 3 (φ 26 3)) 104 4 (φ 26 4)) 104 5 (φ 26 5)) i9 r9 e0
theorem sf_64_82_4_v {sc : List Int} {d : Nat} {φ : hf_F} {x : Nat} {Q : Option jm_V → hf_F → Nat → Prop} 
    (H : hw sc d 65 0 [(0, (2, 83)), (1, (2, 5))] [] φ x (fun r ψ1 y1 => y1 = x ∧ (r = none ∧ (hw sc d 66 0 [(0, (2, 95)), (1, (2, 17))] [] ψ1 x (fun r ψ2 y2 => y2 = x ∧ (r = none ∧ (hw sc d 67 0 [(0, (2, 104)), (1, (2, 26))] [] ψ2 x (fun r ψ3 y3 => y3 = x ∧ (r = none ∧ (Q none ψ3 x)))))))))) :
    hw sc (d + 1) 64 0 [(0, (2, 82)), (1, (2, 4))] [] φ x Q := by
  refine hw_ald (b := 0) (e := 0) (by decide +kernel) rfl (by decide) ?_
  refine hr_gr (w := 83) (b := 2) (e := 0) 82 rfl (by decide +kernel) ?_
  refine hw_ald (b := 1) (e := 0) (by decide +kernel) rfl (by decide) ?_
  refine hr_gr (w := 5) (b := 2) (e := 0) 4 rfl (by decide +kernel) ?_
  refine hr_call (a0 := 13) (b := 65) (e := 2) (nl := 2) (As := [(2, 5)]) (R := []) 83 rfl (by decide +kernel) rfl rfl (Nat.le_of_ble_eq_true rfl) (Nat.le_of_ble_eq_true rfl) ?_
  refine hw_mono H ?_
  rintro r ψ1 y1 ⟨hyx, hr, H⟩
  subst hyx
  subst hr
  refine ⟨hnen, ?_⟩
  show hw sc (d + 1) 64 11 [(0, (2, 82)), (1, (2, 4))] [] ψ1 y1 Q
  refine hw_ald (b := 0) (e := 0) (by decide +kernel) rfl (by decide) ?_
  refine hr_gr (w := 95) (b := 2) (e := 1) 82 rfl (by decide +kernel) ?_
  refine hw_ald (b := 1) (e := 0) (by decide +kernel) rfl (by decide) ?_
  refine hr_gr (w := 17) (b := 2) (e := 1) 4 rfl (by decide +kernel) ?_
  refine hr_call (a0 := 14) (b := 66) (e := 2) (nl := 2) (As := [(2, 17)]) (R := []) 95 rfl (by decide +kernel) rfl rfl (Nat.le_of_ble_eq_true rfl) (Nat.le_of_ble_eq_true rfl) ?_
  refine hw_mono H ?_
  rintro r ψ2 y2 ⟨hyx, hr, H⟩
  subst hyx
  subst hr
  refine ⟨hnen, ?_⟩
  show hw sc (d + 1) 64 22 [(0, (2, 82)), (1, (2, 4))] [] ψ2 y2 Q
  refine hw_ald (b := 0) (e := 0) (by decide +kernel) rfl (by decide) ?_
  refine hr_gr (w := 104) (b := 2) (e := 2) 82 rfl (by decide +kernel) ?_
  refine hw_ald (b := 1) (e := 0) (by decide +kernel) rfl (by decide) ?_
  refine hr_gr (w := 26) (b := 2) (e := 2) 4 rfl (by decide +kernel) ?_
  refine hr_call (a0 := 15) (b := 67) (e := 2) (nl := 2) (As := [(2, 26)]) (R := []) 104 rfl (by decide +kernel) rfl rfl (Nat.le_of_ble_eq_true rfl) (Nat.le_of_ble_eq_true rfl) ?_
  refine hw_mono H ?_
  rintro r ψ3 y3 ⟨hyx, hr, H⟩
  subst hyx
  subst hr
  refine ⟨hnen, ?_⟩
  show hw sc (d + 1) 64 33 [(0, (2, 82)), (1, (2, 4))] [] ψ3 y3 Q
  exact hw_vret (a0 := 0) (e := 0) (by decide +kernel) H
theorem sf_64_82_4 {sc : List Int} {d : Nat} {φ : hf_F} {x : Nat} {Q : Option jm_V → hf_F → Nat → Prop}  (hI : Inv φ)  (hQ : ∀ ψ : hf_F, Inv ψ → Fr [84, 85, 86, 87, 88, 89, 90, 91, 92, 93, 94, 96, 97, 98, 99, 100, 101, 102, 103, 105, 106, 107, 96000, 96001, 96002, 96003, 96004, 96005, 105003, 105004, 105005] φ ψ → F_Scene_copyFrom_82_4 φ = ψ → Q none ψ x) : hw sc (d + 1) 64 0 [(0, (2, 82)), (1, (2, 4))] [] φ x Q := by
  apply sf_64_82_4_v
  have e0 : F_Scene_copyFrom_82_4 φ = _ := rfl
  refine sf_65_83_5 (φ := φ) hI  (fun ψ1 hI1 hF1 hE1 => ⟨rfl, rfl, ?_⟩)
  have hG1 : Fr [84, 85, 86, 87, 88, 89, 90, 91, 92, 93, 94, 96, 97, 98, 99, 100, 101, 102, 103, 105, 106, 107, 96000, 96001, 96002, 96003, 96004, 96005, 105003, 105004, 105005] φ ψ1 := fr_tr (fr_rf) hF1 (by decide)
  have e1 := e0.trans (bnv_e hE1)
  refine sf_66_95_17 (φ := ψ1) hI1  (fun ψ2 hI2 hF2 hE2 => ⟨rfl, rfl, ?_⟩)
  have hG2 : Fr [84, 85, 86, 87, 88, 89, 90, 91, 92, 93, 94, 96, 97, 98, 99, 100, 101, 102, 103, 105, 106, 107, 96000, 96001, 96002, 96003, 96004, 96005, 105003, 105004, 105005] φ ψ2 := fr_tr hG1 hF2 (by decide)
  have e2 := e1.trans (bnv_e hE2)
  refine sf_67_104_26 (φ := ψ2) hI2  (fun ψ3 hI3 hF3 hE3 => ⟨rfl, rfl, ?_⟩)
  have hG3 : Fr [84, 85, 86, 87, 88, 89, 90, 91, 92, 93, 94, 96, 97, 98, 99, 100, 101, 102, 103, 105, 106, 107, 96000, 96001, 96002, 96003, 96004, 96005, 105003, 105004, 105005] φ ψ3 := fr_tr hG2 hF3 (by decide)
  have e3 := e2.trans (bnv_e hE3)
  exact hQ ψ3 hI3 hG3 e3
theorem sf_65_57_5_v {sc : List Int} {d : Nat} {φ : hf_F} {x : Nat} {Q : Option jm_V → hf_F → Nat → Prop} 
    (H : Q none (hf_cp (hf_cp (hf_cp (hf_cp (hf_cp (hf_cp (hf_cp (hf_cp (hf_cp (hf_cp (hf_cp φ 6 58 5) 7 59 40) 8 60 3) 9 61 3) 10 62 8) 11 63 8) 12 64 8) 13 65 8) 14 66 8) 15 67 8) 16 68 64) x) :
    hw sc d 65 0 [(0, (2, 57)), (1, (2, 5))] [] φ x Q := by
  refine hw_ald (b := 1) (e := 0) (by decide +kernel) rfl (by decide) ?_
  refine hr_gr (w := 6) (b := 3) (e := 0) 5 rfl (by decide +kernel) ?_
  refine hw_k (c := 0) (b := 0) (e := 1) (by decide +kernel) ?_
  refine hw_ald (b := 0) (e := 0) (by decide +kernel) rfl (by decide) ?_
  refine hr_gr (w := 58) (b := 3) (e := 0) 57 rfl (by decide +kernel) ?_
  refine hw_k (c := 0) (b := 0) (e := 1) (by decide +kernel) ?_
  refine hw_k (c := 5) (b := 0) (e := 1) (by decide +kernel) ?_
  refine hr_cp (a0 := 0) (b0 := 0) (e := 0) 6 58 5 rfl rfl rfl (by decide +kernel) (Nat.le_of_ble_eq_true rfl) ?_
  refine hw_ald (b := 1) (e := 0) (by decide +kernel) rfl (by decide) ?_
  refine hr_gr (w := 7) (b := 3) (e := 1) 5 rfl (by decide +kernel) ?_
  refine hw_k (c := 0) (b := 0) (e := 1) (by decide +kernel) ?_
  refine hw_ald (b := 0) (e := 0) (by decide +kernel) rfl (by decide) ?_
  refine hr_gr (w := 59) (b := 3) (e := 1) 57 rfl (by decide +kernel) ?_
  refine hw_k (c := 0) (b := 0) (e := 1) (by decide +kernel) ?_
  refine hw_k (c := 40) (b := 1) (e := 2) (by decide +kernel) ?_
  refine hr_cp (a0 := 0) (b0 := 0) (e := 0) 7 59 40 rfl rfl rfl (by decide +kernel) (Nat.le_of_ble_eq_true rfl) ?_
  refine hw_ald (b := 1) (e := 0) (by decide +kernel) rfl (by decide) ?_
  refine hr_gr (w := 8) (b := 3) (e := 2) 5 rfl (by decide +kernel) ?_
  refine hw_k (c := 0) (b := 0) (e := 1) (by decide +kernel) ?_
  refine hw_ald (b := 0) (e := 0) (by decide +kernel) rfl (by decide) ?_
  refine hr_gr (w := 60) (b := 3) (e := 2) 57 rfl (by decide +kernel) ?_
  refine hw_k (c := 0) (b := 0) (e := 1) (by decide +kernel) ?_
  refine hw_k (c := 3) (b := 0) (e := 1) (by decide +kernel) ?_
  refine hr_cp (a0 := 0) (b0 := 0) (e := 0) 8 60 3 rfl rfl rfl (by decide +kernel) (Nat.le_of_ble_eq_true rfl) ?_
  refine hw_ald (b := 1) (e := 0) (by decide +kernel) rfl (by decide) ?_
  refine hr_gr (w := 9) (b := 3) (e := 3) 5 rfl (by decide +kernel) ?_
  refine hw_k (c := 0) (b := 0) (e := 1) (by decide +kernel) ?_
  refine hw_ald (b := 0) (e := 0) (by decide +kernel) rfl (by decide) ?_
  refine hr_gr (w := 61) (b := 3) (e := 3) 57 rfl (by decide +kernel) ?_
  refine hw_k (c := 0) (b := 0) (e := 1) (by decide +kernel) ?_
  refine hw_k (c := 3) (b := 0) (e := 1) (by decide +kernel) ?_
  refine hr_cp (a0 := 0) (b0 := 0) (e := 0) 9 61 3 rfl rfl rfl (by decide +kernel) (Nat.le_of_ble_eq_true rfl) ?_
  refine hw_ald (b := 1) (e := 0) (by decide +kernel) rfl (by decide) ?_
  refine hr_gr (w := 10) (b := 3) (e := 4) 5 rfl (by decide +kernel) ?_
  refine hw_k (c := 0) (b := 0) (e := 1) (by decide +kernel) ?_
  refine hw_ald (b := 0) (e := 0) (by decide +kernel) rfl (by decide) ?_
  refine hr_gr (w := 62) (b := 3) (e := 4) 57 rfl (by decide +kernel) ?_
  refine hw_k (c := 0) (b := 0) (e := 1) (by decide +kernel) ?_
  refine hw_k (c := 8) (b := 1) (e := 2) (by decide +kernel) ?_
  refine hr_cp (a0 := 0) (b0 := 0) (e := 0) 10 62 8 rfl rfl rfl (by decide +kernel) (Nat.le_of_ble_eq_true rfl) ?_
  refine hw_ald (b := 1) (e := 0) (by decide +kernel) rfl (by decide) ?_
  refine hr_gr (w := 11) (b := 3) (e := 5) 5 rfl (by decide +kernel) ?_
  refine hw_k (c := 0) (b := 0) (e := 1) (by decide +kernel) ?_
  refine hw_ald (b := 0) (e := 0) (by decide +kernel) rfl (by decide) ?_
  refine hr_gr (w := 63) (b := 3) (e := 5) 57 rfl (by decide +kernel) ?_
  refine hw_k (c := 0) (b := 0) (e := 1) (by decide +kernel) ?_
  refine hw_k (c := 8) (b := 1) (e := 2) (by decide +kernel) ?_
  refine hr_cp (a0 := 0) (b0 := 0) (e := 0) 11 63 8 rfl rfl rfl (by decide +kernel) (Nat.le_of_ble_eq_true rfl) ?_
  refine hw_ald (b := 1) (e := 0) (by decide +kernel) rfl (by decide) ?_
  refine hr_gr (w := 12) (b := 3) (e := 6) 5 rfl (by decide +kernel) ?_
  refine hw_k (c := 0) (b := 0) (e := 1) (by decide +kernel) ?_
  refine hw_ald (b := 0) (e := 0) (by decide +kernel) rfl (by decide) ?_
  refine hr_gr (w := 64) (b := 3) (e := 6) 57 rfl (by decide +kernel) ?_
  refine hw_k (c := 0) (b := 0) (e := 1) (by decide +kernel) ?_
  refine hw_k (c := 8) (b := 1) (e := 2) (by decide +kernel) ?_
  refine hr_cp (a0 := 0) (b0 := 0) (e := 0) 12 64 8 rfl rfl rfl (by decide +kernel) (Nat.le_of_ble_eq_true rfl) ?_
  refine hw_ald (b := 1) (e := 0) (by decide +kernel) rfl (by decide) ?_
  refine hr_gr (w := 13) (b := 3) (e := 7) 5 rfl (by decide +kernel) ?_
  refine hw_k (c := 0) (b := 0) (e := 1) (by decide +kernel) ?_
  refine hw_ald (b := 0) (e := 0) (by decide +kernel) rfl (by decide) ?_
  refine hr_gr (w := 65) (b := 3) (e := 7) 57 rfl (by decide +kernel) ?_
  refine hw_k (c := 0) (b := 0) (e := 1) (by decide +kernel) ?_
  refine hw_k (c := 8) (b := 1) (e := 2) (by decide +kernel) ?_
  refine hr_cp (a0 := 0) (b0 := 0) (e := 0) 13 65 8 rfl rfl rfl (by decide +kernel) (Nat.le_of_ble_eq_true rfl) ?_
  refine hw_ald (b := 1) (e := 0) (by decide +kernel) rfl (by decide) ?_
  refine hr_gr (w := 14) (b := 3) (e := 8) 5 rfl (by decide +kernel) ?_
  refine hw_k (c := 0) (b := 0) (e := 1) (by decide +kernel) ?_
  refine hw_ald (b := 0) (e := 0) (by decide +kernel) rfl (by decide) ?_
  refine hr_gr (w := 66) (b := 3) (e := 8) 57 rfl (by decide +kernel) ?_
  refine hw_k (c := 0) (b := 0) (e := 1) (by decide +kernel) ?_
  refine hw_k (c := 8) (b := 1) (e := 2) (by decide +kernel) ?_
  refine hr_cp (a0 := 0) (b0 := 0) (e := 0) 14 66 8 rfl rfl rfl (by decide +kernel) (Nat.le_of_ble_eq_true rfl) ?_
  refine hw_ald (b := 1) (e := 0) (by decide +kernel) rfl (by decide) ?_
  refine hr_gr (w := 15) (b := 3) (e := 9) 5 rfl (by decide +kernel) ?_
  refine hw_k (c := 0) (b := 0) (e := 1) (by decide +kernel) ?_
  refine hw_ald (b := 0) (e := 0) (by decide +kernel) rfl (by decide) ?_
  refine hr_gr (w := 67) (b := 3) (e := 9) 57 rfl (by decide +kernel) ?_
  refine hw_k (c := 0) (b := 0) (e := 1) (by decide +kernel) ?_
  refine hw_k (c := 8) (b := 1) (e := 2) (by decide +kernel) ?_
  refine hr_cp (a0 := 0) (b0 := 0) (e := 0) 15 67 8 rfl rfl rfl (by decide +kernel) (Nat.le_of_ble_eq_true rfl) ?_
  refine hw_ald (b := 1) (e := 0) (by decide +kernel) rfl (by decide) ?_
  refine hr_gr (w := 16) (b := 3) (e := 10) 5 rfl (by decide +kernel) ?_
  refine hw_k (c := 0) (b := 0) (e := 1) (by decide +kernel) ?_
  refine hw_ald (b := 0) (e := 0) (by decide +kernel) rfl (by decide) ?_
  refine hr_gr (w := 68) (b := 3) (e := 10) 57 rfl (by decide +kernel) ?_
  refine hw_k (c := 0) (b := 0) (e := 1) (by decide +kernel) ?_
  refine hw_k (c := 64) (b := 1) (e := 2) (by decide +kernel) ?_
  refine hr_cp (a0 := 0) (b0 := 0) (e := 0) 16 68 64 rfl rfl rfl (by decide +kernel) (Nat.le_of_ble_eq_true rfl) ?_
  exact hw_vret (a0 := 0) (e := 0) (by decide +kernel) H
theorem sf_65_57_5 {sc : List Int} {d : Nat} {φ : hf_F} {x : Nat} {Q : Option jm_V → hf_F → Nat → Prop}  (hI : Inv φ)  (hQ : ∀ ψ : hf_F, Inv ψ → Fr [58, 59, 60, 61, 62, 63, 64, 65, 66, 67, 68] φ ψ → F_Plan_copyFrom_57_5 φ = ψ → Q none ψ x) : hw sc d 65 0 [(0, (2, 57)), (1, (2, 5))] [] φ x Q := by
  apply sf_65_57_5_v
  have e0 : F_Plan_copyFrom_57_5 φ = _ := rfl
  have i1 : Inv (hf_cp φ 6 58 5) := iv_cp hI (by decide) (by decide +kernel)
  have r1 : Fr [58, 59, 60, 61, 62, 63, 64, 65, 66, 67, 68] φ (hf_cp φ 6 58 5) := fr_cp (fr_rf) (by decide)
  have i2 : Inv (hf_cp (hf_cp φ 6 58 5) 7 59 40) := iv_cp i1 (by decide) (by decide +kernel)
  have r2 : Fr [58, 59, 60, 61, 62, 63, 64, 65, 66, 67, 68] φ (hf_cp (hf_cp φ 6 58 5) 7 59 40) := fr_cp r1 (by decide)
  have i3 : Inv (hf_cp (hf_cp (hf_cp φ 6 58 5) 7 59 40) 8 60 3) := iv_cp i2 (by decide) (by decide +kernel)
  have r3 : Fr [58, 59, 60, 61, 62, 63, 64, 65, 66, 67, 68] φ (hf_cp (hf_cp (hf_cp φ 6 58 5) 7 59 40) 8 60 3) := fr_cp r2 (by decide)
  have i4 : Inv (hf_cp (hf_cp (hf_cp (hf_cp φ 6 58 5) 7 59 40) 8 60 3) 9 61 3) := iv_cp i3 (by decide) (by decide +kernel)
  have r4 : Fr [58, 59, 60, 61, 62, 63, 64, 65, 66, 67, 68] φ (hf_cp (hf_cp (hf_cp (hf_cp φ 6 58 5) 7 59 40) 8 60 3) 9 61 3) := fr_cp r3 (by decide)
  have i5 : Inv (hf_cp (hf_cp (hf_cp (hf_cp (hf_cp φ 6 58 5) 7 59 40) 8 60 3) 9 61 3) 10 62 8) := iv_cp i4 (by decide) (by decide +kernel)
  have r5 : Fr [58, 59, 60, 61, 62, 63, 64, 65, 66, 67, 68] φ (hf_cp (hf_cp (hf_cp (hf_cp (hf_cp φ 6 58 5) 7 59 40) 8 60 3) 9 61 3) 10 62 8) := fr_cp r4 (by decide)
  have i6 : Inv (hf_cp (hf_cp (hf_cp (hf_cp (hf_cp (hf_cp φ 6 58 5) 7 59 40) 8 60 3) 9 61 3) 10 62 8) 11 63 8) := iv_cp i5 (by decide) (by decide +kernel)
  have r6 : Fr [58, 59, 60, 61, 62, 63, 64, 65, 66, 67, 68] φ (hf_cp (hf_cp (hf_cp (hf_cp (hf_cp (hf_cp φ 6 58 5) 7 59 40) 8 60 3) 9 61 3) 10 62 8) 11 63 8) := fr_cp r5 (by decide)
  have i7 : Inv (hf_cp (hf_cp (hf_cp (hf_cp (hf_cp (hf_cp (hf_cp φ 6 58 5) 7 59 40) 8 60 3) 9 61 3) 10 62 8) 11 63 8) 12 64 8) := iv_cp i6 (by decide) (by decide +kernel)
  have r7 : Fr [58, 59, 60, 61, 62, 63, 64, 65, 66, 67, 68] φ (hf_cp (hf_cp (hf_cp (hf_cp (hf_cp (hf_cp (hf_cp φ 6 58 5) 7 59 40) 8 60 3) 9 61 3) 10 62 8) 11 63 8) 12 64 8) := fr_cp r6 (by decide)
  have i8 : Inv (hf_cp (hf_cp (hf_cp (hf_cp (hf_cp (hf_cp (hf_cp (hf_cp φ 6 58 5) 7 59 40) 8 60 3) 9 61 3) 10 62 8) 11 63 8) 12 64 8) 13 65 8) := iv_cp i7 (by decide) (by decide +kernel)
  have r8 : Fr [58, 59, 60, 61, 62, 63, 64, 65, 66, 67, 68] φ (hf_cp (hf_cp (hf_cp (hf_cp (hf_cp (hf_cp (hf_cp (hf_cp φ 6 58 5) 7 59 40) 8 60 3) 9 61 3) 10 62 8) 11 63 8) 12 64 8) 13 65 8) := fr_cp r7 (by decide)
  have i9 : Inv (hf_cp (hf_cp (hf_cp (hf_cp (hf_cp (hf_cp (hf_cp (hf_cp (hf_cp φ 6 58 5) 7 59 40) 8 60 3) 9 61 3) 10 62 8) 11 63 8) 12 64 8) 13 65 8) 14 66 8) := iv_cp i8 (by decide) (by decide +kernel)
  have r9 : Fr [58, 59, 60, 61, 62, 63, 64, 65, 66, 67, 68] φ (hf_cp (hf_cp (hf_cp (hf_cp (hf_cp (hf_cp (hf_cp (hf_cp (hf_cp φ 6 58 5) 7 59 40) 8 60 3) 9 61 3) 10 62 8) 11 63 8) 12 64 8) 13 65 8) 14 66 8) := fr_cp r8 (by decide)
  have i10 : Inv (hf_cp (hf_cp (hf_cp (hf_cp (hf_cp (hf_cp (hf_cp (hf_cp (hf_cp (hf_cp φ 6 58 5) 7 59 40) 8 60 3) 9 61 3) 10 62 8) 11 63 8) 12 64 8) 13 65 8) 14 66 8) 15 67 8) := iv_cp i9 (by decide) (by decide +kernel)
  have r10 : Fr [58, 59, 60, 61, 62, 63, 64, 65, 66, 67, 68] φ (hf_cp (hf_cp (hf_cp (hf_cp (hf_cp (hf_cp (hf_cp (hf_cp (hf_cp (hf_cp φ 6 58 5) 7 59 40) 8 60 3) 9 61 3) 10 62 8) 11 63 8) 12 64 8) 13 65 8) 14 66 8) 15 67 8) := fr_cp r9 (by decide)
  have i11 : Inv (hf_cp (hf_cp (hf_cp (hf_cp (hf_cp (hf_cp (hf_cp (hf_cp (hf_cp (hf_cp (hf_cp φ 6 58 5) 7 59 40) 8 60 3) 9 61 3) 10 62 8) 11 63 8) 12 64 8) 13 65 8) 14 66 8) 15 67 8) 16 68 64) := iv_cp i10 (by decide) (by decide +kernel)
  have r11 : Fr [58, 59, 60, 61, 62, 63, 64, 65, 66, 67, 68] φ (hf_cp (hf_cp (hf_cp (hf_cp (hf_cp (hf_cp (hf_cp (hf_cp (hf_cp (hf_cp (hf_cp φ 6 58 5) 7 59 40) 8 60 3) 9 61 3) 10 62 8) 11 63 8) 12 64 8) 13 65 8) 14 66 8) 15 67 8) 16 68 64) := fr_cp r10 (by decide)
  exact hQ (hf_cp (hf_cp (hf_cp (hf_cp (hf_cp (hf_cp (hf_cp (hf_cp (hf_cp (hf_cp (hf_cp φ 6 58 5) 7 59 40) 8 60 3) 9 61 3) 10 62 8) 11 63 8) 12 64 8) 13 65 8) 14 66 8) 15 67 8) 16 68 64) i11 r11 e0
theorem sf_66_69_17_v {sc : List Int} {d : Nat} {φ : hf_F} {x : Nat} {Q : Option jm_V → hf_F → Nat → Prop} 
    (H : Q none (hf_cp (hf_cp (hf_cp (hf_cp (hf_cp (hf_cp (hf_cp (hf_cp (hf_up (hf_up (hf_up (hf_up (hf_up (hf_up φ 69 0 (φ 17 0)) 69 1 (φ 17 1)) 69 2 (φ 17 2)) 69 3 (φ 17 3)) 69 4 (φ 17 4)) 69 5 (φ 17 5)) 18 70 8) 19 71 8) 20 72 6) 21 73 6) 22 74 36) 23 75 6) 24 76 6) 25 77 8) x) :
    hw sc d 66 0 [(0, (2, 69)), (1, (2, 17))] [] φ x Q := by
  refine hw_ald (b := 0) (e := 0) (by decide +kernel) rfl (by decide) ?_
  refine hw_ald (b := 1) (e := 0) (by decide +kernel) rfl (by decide) ?_
  refine hr_gi (w := φ 17 0) (b := 4) (e := 0) 17 rfl (by decide +kernel) rfl ?_
  refine hr_pi (b := 4) (e := 0) 69 rfl (by decide +kernel) ?_
  refine hw_ald (b := 0) (e := 0) (by decide +kernel) rfl (by decide) ?_
  refine hw_ald (b := 1) (e := 0) (by decide +kernel) rfl (by decide) ?_
  refine hr_gi (w := φ 17 1) (b := 4) (e := 1) 17 rfl (by decide +kernel) (hf_up_ne (fun q => absurd q.1 (by decide))) ?_
  refine hr_pi (b := 4) (e := 1) 69 rfl (by decide +kernel) ?_
  refine hw_ald (b := 0) (e := 0) (by decide +kernel) rfl (by decide) ?_
  refine hw_ald (b := 1) (e := 0) (by decide +kernel) rfl (by decide) ?_
  refine hr_gi (w := φ 17 2) (b := 4) (e := 2) 17 rfl (by decide +kernel) ((hf_up_ne (fun q => absurd q.1 (by decide))).trans (hf_up_ne (fun q => absurd q.1 (by decide)))) ?_
  refine hr_pi (b := 4) (e := 2) 69 rfl (by decide +kernel) ?_
  refine hw_ald (b := 0) (e := 0) (by decide +kernel) rfl (by decide) ?_
  refine hw_ald (b := 1) (e := 0) (by decide +kernel) rfl (by decide) ?_
  refine hr_gi (w := φ 17 3) (b := 4) (e := 3) 17 rfl (by decide +kernel) ((hf_up_ne (fun q => absurd q.1 (by decide))).trans ((hf_up_ne (fun q => absurd q.1 (by decide))).trans (hf_up_ne (fun q => absurd q.1 (by decide))))) ?_
  refine hr_pi (b := 4) (e := 3) 69 rfl (by decide +kernel) ?_
  refine hw_ald (b := 0) (e := 0) (by decide +kernel) rfl (by decide) ?_
  refine hw_ald (b := 1) (e := 0) (by decide +kernel) rfl (by decide) ?_
  refine hr_gi (w := φ 17 4) (b := 4) (e := 4) 17 rfl (by decide +kernel) ((hf_up_ne (fun q => absurd q.1 (by decide))).trans ((hf_up_ne (fun q => absurd q.1 (by decide))).trans ((hf_up_ne (fun q => absurd q.1 (by decide))).trans (hf_up_ne (fun q => absurd q.1 (by decide)))))) ?_
  refine hr_pi (b := 4) (e := 4) 69 rfl (by decide +kernel) ?_
  refine hw_ald (b := 0) (e := 0) (by decide +kernel) rfl (by decide) ?_
  refine hw_ald (b := 1) (e := 0) (by decide +kernel) rfl (by decide) ?_
  refine hr_gi (w := φ 17 5) (b := 4) (e := 5) 17 rfl (by decide +kernel) ((hf_up_ne (fun q => absurd q.1 (by decide))).trans ((hf_up_ne (fun q => absurd q.1 (by decide))).trans ((hf_up_ne (fun q => absurd q.1 (by decide))).trans ((hf_up_ne (fun q => absurd q.1 (by decide))).trans (hf_up_ne (fun q => absurd q.1 (by decide))))))) ?_
  refine hr_pi (b := 4) (e := 5) 69 rfl (by decide +kernel) ?_
  refine hw_ald (b := 1) (e := 0) (by decide +kernel) rfl (by decide) ?_
  refine hr_gr (w := 18) (b := 4) (e := 6) 17 rfl (by decide +kernel) ?_
  refine hw_k (c := 0) (b := 0) (e := 1) (by decide +kernel) ?_
  refine hw_ald (b := 0) (e := 0) (by decide +kernel) rfl (by decide) ?_
  refine hr_gr (w := 70) (b := 4) (e := 6) 69 rfl (by decide +kernel) ?_
  refine hw_k (c := 0) (b := 0) (e := 1) (by decide +kernel) ?_
  refine hw_k (c := 8) (b := 1) (e := 2) (by decide +kernel) ?_
  refine hr_cp (a0 := 0) (b0 := 0) (e := 0) 18 70 8 rfl rfl rfl (by decide +kernel) (Nat.le_of_ble_eq_true rfl) ?_
  refine hw_ald (b := 1) (e := 0) (by decide +kernel) rfl (by decide) ?_
  refine hr_gr (w := 19) (b := 4) (e := 7) 17 rfl (by decide +kernel) ?_
  refine hw_k (c := 0) (b := 0) (e := 1) (by decide +kernel) ?_
  refine hw_ald (b := 0) (e := 0) (by decide +kernel) rfl (by decide) ?_
  refine hr_gr (w := 71) (b := 4) (e := 7) 69 rfl (by decide +kernel) ?_
  refine hw_k (c := 0) (b := 0) (e := 1) (by decide +kernel) ?_
  refine hw_k (c := 8) (b := 1) (e := 2) (by decide +kernel) ?_
  refine hr_cp (a0 := 0) (b0 := 0) (e := 0) 19 71 8 rfl rfl rfl (by decide +kernel) (Nat.le_of_ble_eq_true rfl) ?_
  refine hw_ald (b := 1) (e := 0) (by decide +kernel) rfl (by decide) ?_
  refine hr_gr (w := 20) (b := 4) (e := 8) 17 rfl (by decide +kernel) ?_
  refine hw_k (c := 0) (b := 0) (e := 1) (by decide +kernel) ?_
  refine hw_ald (b := 0) (e := 0) (by decide +kernel) rfl (by decide) ?_
  refine hr_gr (w := 72) (b := 4) (e := 8) 69 rfl (by decide +kernel) ?_
  refine hw_k (c := 0) (b := 0) (e := 1) (by decide +kernel) ?_
  refine hw_k (c := 6) (b := 1) (e := 2) (by decide +kernel) ?_
  refine hr_cp (a0 := 0) (b0 := 0) (e := 0) 20 72 6 rfl rfl rfl (by decide +kernel) (Nat.le_of_ble_eq_true rfl) ?_
  refine hw_ald (b := 1) (e := 0) (by decide +kernel) rfl (by decide) ?_
  refine hr_gr (w := 21) (b := 4) (e := 9) 17 rfl (by decide +kernel) ?_
  refine hw_k (c := 0) (b := 0) (e := 1) (by decide +kernel) ?_
  refine hw_ald (b := 0) (e := 0) (by decide +kernel) rfl (by decide) ?_
  refine hr_gr (w := 73) (b := 4) (e := 9) 69 rfl (by decide +kernel) ?_
  refine hw_k (c := 0) (b := 0) (e := 1) (by decide +kernel) ?_
  refine hw_k (c := 6) (b := 1) (e := 2) (by decide +kernel) ?_
  refine hr_cp (a0 := 0) (b0 := 0) (e := 0) 21 73 6 rfl rfl rfl (by decide +kernel) (Nat.le_of_ble_eq_true rfl) ?_
  refine hw_ald (b := 1) (e := 0) (by decide +kernel) rfl (by decide) ?_
  refine hr_gr (w := 22) (b := 4) (e := 10) 17 rfl (by decide +kernel) ?_
  refine hw_k (c := 0) (b := 0) (e := 1) (by decide +kernel) ?_
  refine hw_ald (b := 0) (e := 0) (by decide +kernel) rfl (by decide) ?_
  refine hr_gr (w := 74) (b := 4) (e := 10) 69 rfl (by decide +kernel) ?_
  refine hw_k (c := 0) (b := 0) (e := 1) (by decide +kernel) ?_
  refine hw_k (c := 36) (b := 1) (e := 2) (by decide +kernel) ?_
  refine hr_cp (a0 := 0) (b0 := 0) (e := 0) 22 74 36 rfl rfl rfl (by decide +kernel) (Nat.le_of_ble_eq_true rfl) ?_
  refine hw_ald (b := 1) (e := 0) (by decide +kernel) rfl (by decide) ?_
  refine hr_gr (w := 23) (b := 4) (e := 11) 17 rfl (by decide +kernel) ?_
  refine hw_k (c := 0) (b := 0) (e := 1) (by decide +kernel) ?_
  refine hw_ald (b := 0) (e := 0) (by decide +kernel) rfl (by decide) ?_
  refine hr_gr (w := 75) (b := 4) (e := 11) 69 rfl (by decide +kernel) ?_
  refine hw_k (c := 0) (b := 0) (e := 1) (by decide +kernel) ?_
  refine hw_k (c := 6) (b := 1) (e := 2) (by decide +kernel) ?_
  refine hr_cp (a0 := 0) (b0 := 0) (e := 0) 23 75 6 rfl rfl rfl (by decide +kernel) (Nat.le_of_ble_eq_true rfl) ?_
  refine hw_ald (b := 1) (e := 0) (by decide +kernel) rfl (by decide) ?_
  refine hr_gr (w := 24) (b := 4) (e := 12) 17 rfl (by decide +kernel) ?_
  refine hw_k (c := 0) (b := 0) (e := 1) (by decide +kernel) ?_
  refine hw_ald (b := 0) (e := 0) (by decide +kernel) rfl (by decide) ?_
  refine hr_gr (w := 76) (b := 4) (e := 12) 69 rfl (by decide +kernel) ?_
  refine hw_k (c := 0) (b := 0) (e := 1) (by decide +kernel) ?_
  refine hw_k (c := 6) (b := 1) (e := 2) (by decide +kernel) ?_
  refine hr_cp (a0 := 0) (b0 := 0) (e := 0) 24 76 6 rfl rfl rfl (by decide +kernel) (Nat.le_of_ble_eq_true rfl) ?_
  refine hw_ald (b := 1) (e := 0) (by decide +kernel) rfl (by decide) ?_
  refine hr_gr (w := 25) (b := 4) (e := 13) 17 rfl (by decide +kernel) ?_
  refine hw_k (c := 0) (b := 0) (e := 1) (by decide +kernel) ?_
  refine hw_ald (b := 0) (e := 0) (by decide +kernel) rfl (by decide) ?_
  refine hr_gr (w := 77) (b := 4) (e := 13) 69 rfl (by decide +kernel) ?_
  refine hw_k (c := 0) (b := 0) (e := 1) (by decide +kernel) ?_
  refine hw_k (c := 8) (b := 1) (e := 2) (by decide +kernel) ?_
  refine hr_cp (a0 := 0) (b0 := 0) (e := 0) 25 77 8 rfl rfl rfl (by decide +kernel) (Nat.le_of_ble_eq_true rfl) ?_
  exact hw_vret (a0 := 0) (e := 0) (by decide +kernel) H
theorem sf_66_69_17 {sc : List Int} {d : Nat} {φ : hf_F} {x : Nat} {Q : Option jm_V → hf_F → Nat → Prop}  (hI : Inv φ)  (hQ : ∀ ψ : hf_F, Inv ψ → Fr [70, 71, 72, 73, 74, 75, 76, 77, 70000, 70001, 70002, 70003, 70004, 70005] φ ψ → F_State_copyFrom_69_17 φ = ψ → Q none ψ x) : hw sc d 66 0 [(0, (2, 69)), (1, (2, 17))] [] φ x Q := by
  apply sf_66_69_17_v
  have e0 : F_State_copyFrom_69_17 φ = _ := rfl
  have i1 : Inv (hf_up φ 69 0 (φ 17 0)) := iv_upn hI (by decide) (by decide) (by decide +kernel)
  have r1 : Fr [70, 71, 72, 73, 74, 75, 76, 77, 70000, 70001, 70002, 70003, 70004, 70005] φ (hf_up φ 69 0 (φ 17 0)) := fr_up (fr_rf) (by decide)
  have f2 := iv_at (a := 17) (k := 1) (lo := (-1 : Int)) (u := 7) hI (by decide +kernel)
  have i3 : Inv (hf_up (hf_up φ 69 0 (φ 17 0)) 69 1 (φ 17 1)) := iv_up (lo := (-1 : Int)) (u := 7) i1 (by decide +kernel) (by omega) (by omega)
  have r3 : Fr [70, 71, 72, 73, 74, 75, 76, 77, 70000, 70001, 70002, 70003, 70004, 70005] φ (hf_up (hf_up φ 69 0 (φ 17 0)) 69 1 (φ 17 1)) := fr_up r1 (by decide)
  have f4 := iv_at (a := 17) (k := 2) (lo := (-1 : Int)) (u := 5) hI (by decide +kernel)
  have i5 : Inv (hf_up (hf_up (hf_up φ 69 0 (φ 17 0)) 69 1 (φ 17 1)) 69 2 (φ 17 2)) := iv_up (lo := (-1 : Int)) (u := 5) i3 (by decide +kernel) (by omega) (by omega)
  have r5 : Fr [70, 71, 72, 73, 74, 75, 76, 77, 70000, 70001, 70002, 70003, 70004, 70005] φ (hf_up (hf_up (hf_up φ 69 0 (φ 17 0)) 69 1 (φ 17 1)) 69 2 (φ 17 2)) := fr_up r3 (by decide)
  have f6 := iv_at (a := 17) (k := 3) (lo := (-2147483648 : Int)) (u := 2147483647) hI (by decide +kernel)
  have i7 : Inv (hf_up (hf_up (hf_up (hf_up φ 69 0 (φ 17 0)) 69 1 (φ 17 1)) 69 2 (φ 17 2)) 69 3 (φ 17 3)) := iv_up (lo := (-2147483648 : Int)) (u := 2147483647) i5 (by decide +kernel) (by omega) (by omega)
  have r7 : Fr [70, 71, 72, 73, 74, 75, 76, 77, 70000, 70001, 70002, 70003, 70004, 70005] φ (hf_up (hf_up (hf_up (hf_up φ 69 0 (φ 17 0)) 69 1 (φ 17 1)) 69 2 (φ 17 2)) 69 3 (φ 17 3)) := fr_up r5 (by decide)
  have i8 : Inv (hf_up (hf_up (hf_up (hf_up (hf_up φ 69 0 (φ 17 0)) 69 1 (φ 17 1)) 69 2 (φ 17 2)) 69 3 (φ 17 3)) 69 4 (φ 17 4)) := iv_upn i7 (by decide) (by decide) (by decide +kernel)
  have r8 : Fr [70, 71, 72, 73, 74, 75, 76, 77, 70000, 70001, 70002, 70003, 70004, 70005] φ (hf_up (hf_up (hf_up (hf_up (hf_up φ 69 0 (φ 17 0)) 69 1 (φ 17 1)) 69 2 (φ 17 2)) 69 3 (φ 17 3)) 69 4 (φ 17 4)) := fr_up r7 (by decide)
  have i9 : Inv (hf_up (hf_up (hf_up (hf_up (hf_up (hf_up φ 69 0 (φ 17 0)) 69 1 (φ 17 1)) 69 2 (φ 17 2)) 69 3 (φ 17 3)) 69 4 (φ 17 4)) 69 5 (φ 17 5)) := iv_upn i8 (by decide) (by decide) (by decide +kernel)
  have r9 : Fr [70, 71, 72, 73, 74, 75, 76, 77, 70000, 70001, 70002, 70003, 70004, 70005] φ (hf_up (hf_up (hf_up (hf_up (hf_up (hf_up φ 69 0 (φ 17 0)) 69 1 (φ 17 1)) 69 2 (φ 17 2)) 69 3 (φ 17 3)) 69 4 (φ 17 4)) 69 5 (φ 17 5)) := fr_up r8 (by decide)
  have i10 : Inv (hf_cp (hf_up (hf_up (hf_up (hf_up (hf_up (hf_up φ 69 0 (φ 17 0)) 69 1 (φ 17 1)) 69 2 (φ 17 2)) 69 3 (φ 17 3)) 69 4 (φ 17 4)) 69 5 (φ 17 5)) 18 70 8) := iv_cp i9 (by decide) (by decide +kernel)
  have r10 : Fr [70, 71, 72, 73, 74, 75, 76, 77, 70000, 70001, 70002, 70003, 70004, 70005] φ (hf_cp (hf_up (hf_up (hf_up (hf_up (hf_up (hf_up φ 69 0 (φ 17 0)) 69 1 (φ 17 1)) 69 2 (φ 17 2)) 69 3 (φ 17 3)) 69 4 (φ 17 4)) 69 5 (φ 17 5)) 18 70 8) := fr_cp r9 (by decide)
  have i11 : Inv (hf_cp (hf_cp (hf_up (hf_up (hf_up (hf_up (hf_up (hf_up φ 69 0 (φ 17 0)) 69 1 (φ 17 1)) 69 2 (φ 17 2)) 69 3 (φ 17 3)) 69 4 (φ 17 4)) 69 5 (φ 17 5)) 18 70 8) 19 71 8) := iv_cp i10 (by decide) (by decide +kernel)
  have r11 : Fr [70, 71, 72, 73, 74, 75, 76, 77, 70000, 70001, 70002, 70003, 70004, 70005] φ (hf_cp (hf_cp (hf_up (hf_up (hf_up (hf_up (hf_up (hf_up φ 69 0 (φ 17 0)) 69 1 (φ 17 1)) 69 2 (φ 17 2)) 69 3 (φ 17 3)) 69 4 (φ 17 4)) 69 5 (φ 17 5)) 18 70 8) 19 71 8) := fr_cp r10 (by decide)
  have i12 : Inv (hf_cp (hf_cp (hf_cp (hf_up (hf_up (hf_up (hf_up (hf_up (hf_up φ 69 0 (φ 17 0)) 69 1 (φ 17 1)) 69 2 (φ 17 2)) 69 3 (φ 17 3)) 69 4 (φ 17 4)) 69 5 (φ 17 5)) 18 70 8) 19 71 8) 20 72 6) := iv_cp i11 (by decide) (by decide +kernel)
  have r12 : Fr [70, 71, 72, 73, 74, 75, 76, 77, 70000, 70001, 70002, 70003, 70004, 70005] φ (hf_cp (hf_cp (hf_cp (hf_up (hf_up (hf_up (hf_up (hf_up (hf_up φ 69 0 (φ 17 0)) 69 1 (φ 17 1)) 69 2 (φ 17 2)) 69 3 (φ 17 3)) 69 4 (φ 17 4)) 69 5 (φ 17 5)) 18 70 8) 19 71 8) 20 72 6) := fr_cp r11 (by decide)
  have i13 : Inv (hf_cp (hf_cp (hf_cp (hf_cp (hf_up (hf_up (hf_up (hf_up (hf_up (hf_up φ 69 0 (φ 17 0)) 69 1 (φ 17 1)) 69 2 (φ 17 2)) 69 3 (φ 17 3)) 69 4 (φ 17 4)) 69 5 (φ 17 5)) 18 70 8) 19 71 8) 20 72 6) 21 73 6) := iv_cp i12 (by decide) (by decide +kernel)
  have r13 : Fr [70, 71, 72, 73, 74, 75, 76, 77, 70000, 70001, 70002, 70003, 70004, 70005] φ (hf_cp (hf_cp (hf_cp (hf_cp (hf_up (hf_up (hf_up (hf_up (hf_up (hf_up φ 69 0 (φ 17 0)) 69 1 (φ 17 1)) 69 2 (φ 17 2)) 69 3 (φ 17 3)) 69 4 (φ 17 4)) 69 5 (φ 17 5)) 18 70 8) 19 71 8) 20 72 6) 21 73 6) := fr_cp r12 (by decide)
  have i14 : Inv (hf_cp (hf_cp (hf_cp (hf_cp (hf_cp (hf_up (hf_up (hf_up (hf_up (hf_up (hf_up φ 69 0 (φ 17 0)) 69 1 (φ 17 1)) 69 2 (φ 17 2)) 69 3 (φ 17 3)) 69 4 (φ 17 4)) 69 5 (φ 17 5)) 18 70 8) 19 71 8) 20 72 6) 21 73 6) 22 74 36) := iv_cp i13 (by decide) (by decide +kernel)
  have r14 : Fr [70, 71, 72, 73, 74, 75, 76, 77, 70000, 70001, 70002, 70003, 70004, 70005] φ (hf_cp (hf_cp (hf_cp (hf_cp (hf_cp (hf_up (hf_up (hf_up (hf_up (hf_up (hf_up φ 69 0 (φ 17 0)) 69 1 (φ 17 1)) 69 2 (φ 17 2)) 69 3 (φ 17 3)) 69 4 (φ 17 4)) 69 5 (φ 17 5)) 18 70 8) 19 71 8) 20 72 6) 21 73 6) 22 74 36) := fr_cp r13 (by decide)
  have i15 : Inv (hf_cp (hf_cp (hf_cp (hf_cp (hf_cp (hf_cp (hf_up (hf_up (hf_up (hf_up (hf_up (hf_up φ 69 0 (φ 17 0)) 69 1 (φ 17 1)) 69 2 (φ 17 2)) 69 3 (φ 17 3)) 69 4 (φ 17 4)) 69 5 (φ 17 5)) 18 70 8) 19 71 8) 20 72 6) 21 73 6) 22 74 36) 23 75 6) := iv_cp i14 (by decide) (by decide +kernel)
  have r15 : Fr [70, 71, 72, 73, 74, 75, 76, 77, 70000, 70001, 70002, 70003, 70004, 70005] φ (hf_cp (hf_cp (hf_cp (hf_cp (hf_cp (hf_cp (hf_up (hf_up (hf_up (hf_up (hf_up (hf_up φ 69 0 (φ 17 0)) 69 1 (φ 17 1)) 69 2 (φ 17 2)) 69 3 (φ 17 3)) 69 4 (φ 17 4)) 69 5 (φ 17 5)) 18 70 8) 19 71 8) 20 72 6) 21 73 6) 22 74 36) 23 75 6) := fr_cp r14 (by decide)
  have i16 : Inv (hf_cp (hf_cp (hf_cp (hf_cp (hf_cp (hf_cp (hf_cp (hf_up (hf_up (hf_up (hf_up (hf_up (hf_up φ 69 0 (φ 17 0)) 69 1 (φ 17 1)) 69 2 (φ 17 2)) 69 3 (φ 17 3)) 69 4 (φ 17 4)) 69 5 (φ 17 5)) 18 70 8) 19 71 8) 20 72 6) 21 73 6) 22 74 36) 23 75 6) 24 76 6) := iv_cp i15 (by decide) (by decide +kernel)
  have r16 : Fr [70, 71, 72, 73, 74, 75, 76, 77, 70000, 70001, 70002, 70003, 70004, 70005] φ (hf_cp (hf_cp (hf_cp (hf_cp (hf_cp (hf_cp (hf_cp (hf_up (hf_up (hf_up (hf_up (hf_up (hf_up φ 69 0 (φ 17 0)) 69 1 (φ 17 1)) 69 2 (φ 17 2)) 69 3 (φ 17 3)) 69 4 (φ 17 4)) 69 5 (φ 17 5)) 18 70 8) 19 71 8) 20 72 6) 21 73 6) 22 74 36) 23 75 6) 24 76 6) := fr_cp r15 (by decide)
  have i17 : Inv (hf_cp (hf_cp (hf_cp (hf_cp (hf_cp (hf_cp (hf_cp (hf_cp (hf_up (hf_up (hf_up (hf_up (hf_up (hf_up φ 69 0 (φ 17 0)) 69 1 (φ 17 1)) 69 2 (φ 17 2)) 69 3 (φ 17 3)) 69 4 (φ 17 4)) 69 5 (φ 17 5)) 18 70 8) 19 71 8) 20 72 6) 21 73 6) 22 74 36) 23 75 6) 24 76 6) 25 77 8) := iv_cp i16 (by decide) (by decide +kernel)
  have r17 : Fr [70, 71, 72, 73, 74, 75, 76, 77, 70000, 70001, 70002, 70003, 70004, 70005] φ (hf_cp (hf_cp (hf_cp (hf_cp (hf_cp (hf_cp (hf_cp (hf_cp (hf_up (hf_up (hf_up (hf_up (hf_up (hf_up φ 69 0 (φ 17 0)) 69 1 (φ 17 1)) 69 2 (φ 17 2)) 69 3 (φ 17 3)) 69 4 (φ 17 4)) 69 5 (φ 17 5)) 18 70 8) 19 71 8) 20 72 6) 21 73 6) 22 74 36) 23 75 6) 24 76 6) 25 77 8) := fr_cp r16 (by decide)
  exact hQ (hf_cp (hf_cp (hf_cp (hf_cp (hf_cp (hf_cp (hf_cp (hf_cp (hf_up (hf_up (hf_up (hf_up (hf_up (hf_up φ 69 0 (φ 17 0)) 69 1 (φ 17 1)) 69 2 (φ 17 2)) 69 3 (φ 17 3)) 69 4 (φ 17 4)) 69 5 (φ 17 5)) 18 70 8) 19 71 8) 20 72 6) 21 73 6) 22 74 36) 23 75 6) 24 76 6) 25 77 8) i17 r17 e0
theorem sf_67_78_26_v {sc : List Int} {d : Nat} {φ : hf_F} {x : Nat} {Q : Option jm_V → hf_F → Nat → Prop} 
    (H : ((φ 26 5) = 0 ∨ (φ 26 5) = 1) ∧ (Q none (hf_up (hf_up (hf_up (hf_cp (hf_cp (hf_cp φ 27 79 40) 28 80 40) 29 81 40) 78 3 (φ 26 3)) 78 4 (φ 26 4)) 78 5 (φ 26 5)) x)) :
    hw sc d 67 0 [(0, (2, 78)), (1, (2, 26))] [] φ x Q := by
  refine hw_ald (b := 1) (e := 0) (by decide +kernel) rfl (by decide) ?_
  refine hr_gr (w := 27) (b := 5) (e := 0) 26 rfl (by decide +kernel) ?_
  refine hw_k (c := 0) (b := 0) (e := 1) (by decide +kernel) ?_
  refine hw_ald (b := 0) (e := 0) (by decide +kernel) rfl (by decide) ?_
  refine hr_gr (w := 79) (b := 5) (e := 0) 78 rfl (by decide +kernel) ?_
  refine hw_k (c := 0) (b := 0) (e := 1) (by decide +kernel) ?_
  refine hw_k (c := 40) (b := 1) (e := 2) (by decide +kernel) ?_
  refine hr_cp (a0 := 0) (b0 := 0) (e := 0) 27 79 40 rfl rfl rfl (by decide +kernel) (Nat.le_of_ble_eq_true rfl) ?_
  refine hw_ald (b := 1) (e := 0) (by decide +kernel) rfl (by decide) ?_
  refine hr_gr (w := 28) (b := 5) (e := 1) 26 rfl (by decide +kernel) ?_
  refine hw_k (c := 0) (b := 0) (e := 1) (by decide +kernel) ?_
  refine hw_ald (b := 0) (e := 0) (by decide +kernel) rfl (by decide) ?_
  refine hr_gr (w := 80) (b := 5) (e := 1) 78 rfl (by decide +kernel) ?_
  refine hw_k (c := 0) (b := 0) (e := 1) (by decide +kernel) ?_
  refine hw_k (c := 40) (b := 1) (e := 2) (by decide +kernel) ?_
  refine hr_cp (a0 := 0) (b0 := 0) (e := 0) 28 80 40 rfl rfl rfl (by decide +kernel) (Nat.le_of_ble_eq_true rfl) ?_
  refine hw_ald (b := 1) (e := 0) (by decide +kernel) rfl (by decide) ?_
  refine hr_gr (w := 29) (b := 5) (e := 2) 26 rfl (by decide +kernel) ?_
  refine hw_k (c := 0) (b := 0) (e := 1) (by decide +kernel) ?_
  refine hw_ald (b := 0) (e := 0) (by decide +kernel) rfl (by decide) ?_
  refine hr_gr (w := 81) (b := 5) (e := 2) 78 rfl (by decide +kernel) ?_
  refine hw_k (c := 0) (b := 0) (e := 1) (by decide +kernel) ?_
  refine hw_k (c := 40) (b := 1) (e := 2) (by decide +kernel) ?_
  refine hr_cp (a0 := 0) (b0 := 0) (e := 0) 29 81 40 rfl rfl rfl (by decide +kernel) (Nat.le_of_ble_eq_true rfl) ?_
  refine hw_ald (b := 0) (e := 0) (by decide +kernel) rfl (by decide) ?_
  refine hw_ald (b := 1) (e := 0) (by decide +kernel) rfl (by decide) ?_
  refine hr_gi (w := φ 26 3) (b := 5) (e := 3) 26 rfl (by decide +kernel) ((hf_cp_ne (fun q => absurd q.1 (by decide))).trans ((hf_cp_ne (fun q => absurd q.1 (by decide))).trans (hf_cp_ne (fun q => absurd q.1 (by decide))))) ?_
  refine hr_pi (b := 5) (e := 3) 78 rfl (by decide +kernel) ?_
  refine hw_ald (b := 0) (e := 0) (by decide +kernel) rfl (by decide) ?_
  refine hw_ald (b := 1) (e := 0) (by decide +kernel) rfl (by decide) ?_
  refine hr_gi (w := φ 26 4) (b := 5) (e := 4) 26 rfl (by decide +kernel) ((hf_up_ne (fun q => absurd q.1 (by decide))).trans ((hf_cp_ne (fun q => absurd q.1 (by decide))).trans ((hf_cp_ne (fun q => absurd q.1 (by decide))).trans (hf_cp_ne (fun q => absurd q.1 (by decide)))))) ?_
  refine hr_pi (b := 5) (e := 4) 78 rfl (by decide +kernel) ?_
  refine hw_ald (b := 0) (e := 0) (by decide +kernel) rfl (by decide) ?_
  refine hw_ald (b := 1) (e := 0) (by decide +kernel) rfl (by decide) ?_
  refine hr_gz (w := φ 26 5) (b := 5) (e := 5) 26 rfl (by decide +kernel) ((hf_up_ne (fun q => absurd q.1 (by decide))).trans ((hf_up_ne (fun q => absurd q.1 (by decide))).trans ((hf_cp_ne (fun q => absurd q.1 (by decide))).trans ((hf_cp_ne (fun q => absurd q.1 (by decide))).trans (hf_cp_ne (fun q => absurd q.1 (by decide))))))) ?_
  obtain ⟨h01_1, H⟩ := H
  refine hr_pz (b := 5) (e := 5) 78 rfl (by decide +kernel) h01_1 ?_
  exact hw_vret (a0 := 0) (e := 0) (by decide +kernel) H
theorem sf_67_78_26 {sc : List Int} {d : Nat} {φ : hf_F} {x : Nat} {Q : Option jm_V → hf_F → Nat → Prop}  (hI : Inv φ)  (hQ : ∀ ψ : hf_F, Inv ψ → Fr [79, 80, 81, 79003, 79004, 79005] φ ψ → F_Sentence_copyFrom_78_26 φ = ψ → Q none ψ x) : hw sc d 67 0 [(0, (2, 78)), (1, (2, 26))] [] φ x Q := by
  apply sf_67_78_26_v
  have e0 : F_Sentence_copyFrom_78_26 φ = _ := rfl
  have i1 : Inv (hf_cp φ 27 79 40) := iv_cp hI (by decide) (by decide +kernel)
  have r1 : Fr [79, 80, 81, 79003, 79004, 79005] φ (hf_cp φ 27 79 40) := fr_cp (fr_rf) (by decide)
  have i2 : Inv (hf_cp (hf_cp φ 27 79 40) 28 80 40) := iv_cp i1 (by decide) (by decide +kernel)
  have r2 : Fr [79, 80, 81, 79003, 79004, 79005] φ (hf_cp (hf_cp φ 27 79 40) 28 80 40) := fr_cp r1 (by decide)
  have i3 : Inv (hf_cp (hf_cp (hf_cp φ 27 79 40) 28 80 40) 29 81 40) := iv_cp i2 (by decide) (by decide +kernel)
  have r3 : Fr [79, 80, 81, 79003, 79004, 79005] φ (hf_cp (hf_cp (hf_cp φ 27 79 40) 28 80 40) 29 81 40) := fr_cp r2 (by decide)
  have f4 := iv_at (a := 26) (k := 3) (lo := 0) (u := 40) hI (by decide +kernel)
  have i5 : Inv (hf_up (hf_cp (hf_cp (hf_cp φ 27 79 40) 28 80 40) 29 81 40) 78 3 (φ 26 3)) := iv_up (lo := 0) (u := 40) i3 (by decide +kernel) (by omega) (by omega)
  have r5 : Fr [79, 80, 81, 79003, 79004, 79005] φ (hf_up (hf_cp (hf_cp (hf_cp φ 27 79 40) 28 80 40) 29 81 40) 78 3 (φ 26 3)) := fr_up r3 (by decide)
  have f6 := iv_at (a := 26) (k := 4) (lo := 0) (u := 20) hI (by decide +kernel)
  have i7 : Inv (hf_up (hf_up (hf_cp (hf_cp (hf_cp φ 27 79 40) 28 80 40) 29 81 40) 78 3 (φ 26 3)) 78 4 (φ 26 4)) := iv_up (lo := 0) (u := 20) i5 (by decide +kernel) (by omega) (by omega)
  have r7 : Fr [79, 80, 81, 79003, 79004, 79005] φ (hf_up (hf_up (hf_cp (hf_cp (hf_cp φ 27 79 40) 28 80 40) 29 81 40) 78 3 (φ 26 3)) 78 4 (φ 26 4)) := fr_up r5 (by decide)
  have f8 := iv_at (a := 26) (k := 5) (lo := 0) (u := 1) hI (by decide +kernel)
  refine ⟨by omega, ?_⟩
  have i9 : Inv (hf_up (hf_up (hf_up (hf_cp (hf_cp (hf_cp φ 27 79 40) 28 80 40) 29 81 40) 78 3 (φ 26 3)) 78 4 (φ 26 4)) 78 5 (φ 26 5)) := iv_up (lo := 0) (u := 1) i7 (by decide +kernel) (by omega) (by omega)
  have r9 : Fr [79, 80, 81, 79003, 79004, 79005] φ (hf_up (hf_up (hf_up (hf_cp (hf_cp (hf_cp φ 27 79 40) 28 80 40) 29 81 40) 78 3 (φ 26 3)) 78 4 (φ 26 4)) 78 5 (φ 26 5)) := fr_up r7 (by decide)
  exact hQ (hf_up (hf_up (hf_up (hf_cp (hf_cp (hf_cp φ 27 79 40) 28 80 40) 29 81 40) 78 3 (φ 26 3)) 78 4 (φ 26 4)) 78 5 (φ 26 5)) i9 r9 e0
theorem sf_64_56_4_v {sc : List Int} {d : Nat} {φ : hf_F} {x : Nat} {Q : Option jm_V → hf_F → Nat → Prop} 
    (H : hw sc d 65 0 [(0, (2, 57)), (1, (2, 5))] [] φ x (fun r ψ1 y1 => y1 = x ∧ (r = none ∧ (hw sc d 66 0 [(0, (2, 69)), (1, (2, 17))] [] ψ1 x (fun r ψ2 y2 => y2 = x ∧ (r = none ∧ (hw sc d 67 0 [(0, (2, 78)), (1, (2, 26))] [] ψ2 x (fun r ψ3 y3 => y3 = x ∧ (r = none ∧ (Q none ψ3 x)))))))))) :
    hw sc (d + 1) 64 0 [(0, (2, 56)), (1, (2, 4))] [] φ x Q := by
  refine hw_ald (b := 0) (e := 0) (by decide +kernel) rfl (by decide) ?_
  refine hr_gr (w := 57) (b := 2) (e := 0) 56 rfl (by decide +kernel) ?_
  refine hw_ald (b := 1) (e := 0) (by decide +kernel) rfl (by decide) ?_
  refine hr_gr (w := 5) (b := 2) (e := 0) 4 rfl (by decide +kernel) ?_
  refine hr_call (a0 := 13) (b := 65) (e := 2) (nl := 2) (As := [(2, 5)]) (R := []) 57 rfl (by decide +kernel) rfl rfl (Nat.le_of_ble_eq_true rfl) (Nat.le_of_ble_eq_true rfl) ?_
  refine hw_mono H ?_
  rintro r ψ1 y1 ⟨hyx, hr, H⟩
  subst hyx
  subst hr
  refine ⟨hnen, ?_⟩
  show hw sc (d + 1) 64 11 [(0, (2, 56)), (1, (2, 4))] [] ψ1 y1 Q
  refine hw_ald (b := 0) (e := 0) (by decide +kernel) rfl (by decide) ?_
  refine hr_gr (w := 69) (b := 2) (e := 1) 56 rfl (by decide +kernel) ?_
  refine hw_ald (b := 1) (e := 0) (by decide +kernel) rfl (by decide) ?_
  refine hr_gr (w := 17) (b := 2) (e := 1) 4 rfl (by decide +kernel) ?_
  refine hr_call (a0 := 14) (b := 66) (e := 2) (nl := 2) (As := [(2, 17)]) (R := []) 69 rfl (by decide +kernel) rfl rfl (Nat.le_of_ble_eq_true rfl) (Nat.le_of_ble_eq_true rfl) ?_
  refine hw_mono H ?_
  rintro r ψ2 y2 ⟨hyx, hr, H⟩
  subst hyx
  subst hr
  refine ⟨hnen, ?_⟩
  show hw sc (d + 1) 64 22 [(0, (2, 56)), (1, (2, 4))] [] ψ2 y2 Q
  refine hw_ald (b := 0) (e := 0) (by decide +kernel) rfl (by decide) ?_
  refine hr_gr (w := 78) (b := 2) (e := 2) 56 rfl (by decide +kernel) ?_
  refine hw_ald (b := 1) (e := 0) (by decide +kernel) rfl (by decide) ?_
  refine hr_gr (w := 26) (b := 2) (e := 2) 4 rfl (by decide +kernel) ?_
  refine hr_call (a0 := 15) (b := 67) (e := 2) (nl := 2) (As := [(2, 26)]) (R := []) 78 rfl (by decide +kernel) rfl rfl (Nat.le_of_ble_eq_true rfl) (Nat.le_of_ble_eq_true rfl) ?_
  refine hw_mono H ?_
  rintro r ψ3 y3 ⟨hyx, hr, H⟩
  subst hyx
  subst hr
  refine ⟨hnen, ?_⟩
  show hw sc (d + 1) 64 33 [(0, (2, 56)), (1, (2, 4))] [] ψ3 y3 Q
  exact hw_vret (a0 := 0) (e := 0) (by decide +kernel) H
theorem sf_64_56_4 {sc : List Int} {d : Nat} {φ : hf_F} {x : Nat} {Q : Option jm_V → hf_F → Nat → Prop}  (hI : Inv φ)  (hQ : ∀ ψ : hf_F, Inv ψ → Fr [58, 59, 60, 61, 62, 63, 64, 65, 66, 67, 68, 70, 71, 72, 73, 74, 75, 76, 77, 79, 80, 81, 70000, 70001, 70002, 70003, 70004, 70005, 79003, 79004, 79005] φ ψ → F_Scene_copyFrom_56_4 φ = ψ → Q none ψ x) : hw sc (d + 1) 64 0 [(0, (2, 56)), (1, (2, 4))] [] φ x Q := by
  apply sf_64_56_4_v
  have e0 : F_Scene_copyFrom_56_4 φ = _ := rfl
  refine sf_65_57_5 (φ := φ) hI  (fun ψ1 hI1 hF1 hE1 => ⟨rfl, rfl, ?_⟩)
  have hG1 : Fr [58, 59, 60, 61, 62, 63, 64, 65, 66, 67, 68, 70, 71, 72, 73, 74, 75, 76, 77, 79, 80, 81, 70000, 70001, 70002, 70003, 70004, 70005, 79003, 79004, 79005] φ ψ1 := fr_tr (fr_rf) hF1 (by decide)
  have e1 := e0.trans (bnv_e hE1)
  refine sf_66_69_17 (φ := ψ1) hI1  (fun ψ2 hI2 hF2 hE2 => ⟨rfl, rfl, ?_⟩)
  have hG2 : Fr [58, 59, 60, 61, 62, 63, 64, 65, 66, 67, 68, 70, 71, 72, 73, 74, 75, 76, 77, 79, 80, 81, 70000, 70001, 70002, 70003, 70004, 70005, 79003, 79004, 79005] φ ψ2 := fr_tr hG1 hF2 (by decide)
  have e2 := e1.trans (bnv_e hE2)
  refine sf_67_78_26 (φ := ψ2) hI2  (fun ψ3 hI3 hF3 hE3 => ⟨rfl, rfl, ?_⟩)
  have hG3 : Fr [58, 59, 60, 61, 62, 63, 64, 65, 66, 67, 68, 70, 71, 72, 73, 74, 75, 76, 77, 79, 80, 81, 70000, 70001, 70002, 70003, 70004, 70005, 79003, 79004, 79005] φ ψ3 := fr_tr hG2 hF3 (by decide)
  have e3 := e2.trans (bnv_e hE3)
  exact hQ ψ3 hI3 hG3 e3
theorem sf_156_0_v {sc : List Int} {d : Nat} {φ : hf_F} {x : Nat} {Q : Option jm_V → hf_F → Nat → Prop} {v1 : Int}
    (H : hi v1 ∧ (v1 = 0 → hi v1 ∧ (¬ v1 = 0 → hw sc (d + 1) 64 0 [(0, (2, 82)), (1, (2, 4))] [] φ x (fun r ψ3 y3 => y3 = x ∧ (r = none ∧ (Q (some (0, 1)) (hf_up ψ3 82 3 1) x)))) ∧ (¬ (¬ v1 = 0) → hw sc (d + 1) 64 0 [(0, (2, 56)), (1, (2, 4))] [] φ x (fun r ψ5 y5 => y5 = x ∧ (r = none ∧ (Q (some (0, 1)) (hf_up ψ5 56 3 1) x))))) ∧ (¬ v1 = 0 → hi v1 ∧ hi 1 ∧ (v1 = 1 → hi v1 ∧ (¬ v1 = 0 → hw sc (d + 1) 64 0 [(0, (2, 82)), (1, (2, 4))] [] φ x (fun r ψ9 y9 => y9 = x ∧ (r = none ∧ (Q (some (0, 1)) (hf_up ψ9 82 3 1) x)))) ∧ (¬ (¬ v1 = 0) → hw sc (d + 1) 64 0 [(0, (2, 56)), (1, (2, 4))] [] φ x (fun r ψ11 y11 => y11 = x ∧ (r = none ∧ (Q (some (0, 1)) (hf_up ψ11 56 3 1) x))))) ∧ (¬ v1 = 1 → Q (some (0, 0)) φ x))) :
    hw sc (d + 2) 156 0 [(0, (2, 0)), (1, (0, v1))] [] φ x Q := by
  refine hw_ld (b := 1) (e := 0) (by decide +kernel) rfl ?_
  obtain ⟨hz1, ht1, hf1⟩ := H
  refine hw_if (a0 := 0) (b := 0) (e := 11) (by decide +kernel) hz1 (fun q => ?_) (fun q => ?_)
  · have H := ht1 q
    refine hw_ld (b := 1) (e := 0) (by decide +kernel) rfl ?_
    obtain ⟨hz2, ht2, hf2⟩ := H
    refine hw_if (a0 := 0) (b := 1) (e := 22) (by decide +kernel) hz2 (fun q => ?_) (fun q => ?_)
    · have H := ht2 q
      refine hw_ald (b := 0) (e := 0) (by decide +kernel) rfl (by decide) ?_
      refine hr_gr (w := 82) (b := 0) (e := 4) 0 rfl (by decide +kernel) ?_
      refine hw_ast (L' := (jm_st1 [(0, (2, 0)), (1, (0, v1))] 2 (2, 82))) (b := 2) (e := 0) (by decide +kernel) rfl (by decide) ?_
      refine hw_ald (b := 2) (e := 0) (by decide +kernel) get_st1e (by decide) ?_
      refine hw_ald (b := 0) (e := 0) (by decide +kernel) (get_st1 rfl (by decide) (fun q => absurd q.1 (by decide))) (by decide) ?_
      refine hr_gr (w := 4) (b := 0) (e := 1) 0 rfl (by decide +kernel) ?_
      refine hr_call (a0 := 12) (b := 64) (e := 2) (nl := 2) (As := [(2, 4)]) (R := []) 82 rfl (by decide +kernel) rfl rfl (Nat.le_of_ble_eq_true rfl) (Nat.le_of_ble_eq_true rfl) ?_
      refine hw_mono H ?_
      rintro r ψ3 y3 ⟨hyx, hr, H⟩
      subst hyx
      subst hr
      refine ⟨hnen, ?_⟩
      show hw sc (d + 2) 156 35 (jm_st1 [(0, (2, 0)), (1, (0, v1))] 2 (2, 82)) [] ψ3 y3 Q
      refine hw_ald (b := 2) (e := 0) (by decide +kernel) get_st1e (by decide) ?_
      refine hw_k (c := 1) (b := 0) (e := 1) (by decide +kernel) ?_
      refine hr_pz (b := 2) (e := 3) 82 rfl (by decide +kernel) (by decide) ?_
      refine hw_k (c := 1) (b := 0) (e := 1) (by decide +kernel) ?_
      exact hw_ret (a0 := 0) (e := 1) (by decide +kernel) (Or.inr ⟨rfl, by decide⟩) H
    · have H := hf2 q
      refine hw_ald (b := 0) (e := 0) (by decide +kernel) rfl (by decide) ?_
      refine hr_gr (w := 56) (b := 0) (e := 3) 0 rfl (by decide +kernel) ?_
      refine hw_goto (a0 := 0) (b := 0) (e := 26) (by decide +kernel) ?_
      refine hw_ast (L' := (jm_st1 [(0, (2, 0)), (1, (0, v1))] 2 (2, 56))) (b := 2) (e := 0) (by decide +kernel) rfl (by decide) ?_
      refine hw_ald (b := 2) (e := 0) (by decide +kernel) get_st1e (by decide) ?_
      refine hw_ald (b := 0) (e := 0) (by decide +kernel) (get_st1 rfl (by decide) (fun q => absurd q.1 (by decide))) (by decide) ?_
      refine hr_gr (w := 4) (b := 0) (e := 1) 0 rfl (by decide +kernel) ?_
      refine hr_call (a0 := 12) (b := 64) (e := 2) (nl := 2) (As := [(2, 4)]) (R := []) 56 rfl (by decide +kernel) rfl rfl (Nat.le_of_ble_eq_true rfl) (Nat.le_of_ble_eq_true rfl) ?_
      refine hw_mono H ?_
      rintro r ψ5 y5 ⟨hyx, hr, H⟩
      subst hyx
      subst hr
      refine ⟨hnen, ?_⟩
      show hw sc (d + 2) 156 35 (jm_st1 [(0, (2, 0)), (1, (0, v1))] 2 (2, 56)) [] ψ5 y5 Q
      refine hw_ald (b := 2) (e := 0) (by decide +kernel) get_st1e (by decide) ?_
      refine hw_k (c := 1) (b := 0) (e := 1) (by decide +kernel) ?_
      refine hr_pz (b := 2) (e := 3) 56 rfl (by decide +kernel) (by decide) ?_
      refine hw_k (c := 1) (b := 0) (e := 1) (by decide +kernel) ?_
      exact hw_ret (a0 := 0) (e := 1) (by decide +kernel) (Or.inr ⟨rfl, by decide⟩) H
  · have H := hf1 q
    refine hw_ld (b := 1) (e := 0) (by decide +kernel) rfl ?_
    refine hw_k (c := 1) (b := 0) (e := 1) (by decide +kernel) ?_
    obtain ⟨hz7, hy7, ht7, hf7⟩ := H
    refine hw_if2 (a0 := 0) (b := 0) (e := 11) (by decide +kernel) hz7 hy7 (fun q => ?_) (fun q => ?_)
    · have H := ht7 q
      refine hw_ld (b := 1) (e := 0) (by decide +kernel) rfl ?_
      obtain ⟨hz8, ht8, hf8⟩ := H
      refine hw_if (a0 := 0) (b := 1) (e := 22) (by decide +kernel) hz8 (fun q => ?_) (fun q => ?_)
      · have H := ht8 q
        refine hw_ald (b := 0) (e := 0) (by decide +kernel) rfl (by decide) ?_
        refine hr_gr (w := 82) (b := 0) (e := 4) 0 rfl (by decide +kernel) ?_
        refine hw_ast (L' := (jm_st1 [(0, (2, 0)), (1, (0, v1))] 2 (2, 82))) (b := 2) (e := 0) (by decide +kernel) rfl (by decide) ?_
        refine hw_ald (b := 2) (e := 0) (by decide +kernel) get_st1e (by decide) ?_
        refine hw_ald (b := 0) (e := 0) (by decide +kernel) (get_st1 rfl (by decide) (fun q => absurd q.1 (by decide))) (by decide) ?_
        refine hr_gr (w := 4) (b := 0) (e := 1) 0 rfl (by decide +kernel) ?_
        refine hr_call (a0 := 12) (b := 64) (e := 2) (nl := 2) (As := [(2, 4)]) (R := []) 82 rfl (by decide +kernel) rfl rfl (Nat.le_of_ble_eq_true rfl) (Nat.le_of_ble_eq_true rfl) ?_
        refine hw_mono H ?_
        rintro r ψ9 y9 ⟨hyx, hr, H⟩
        subst hyx
        subst hr
        refine ⟨hnen, ?_⟩
        show hw sc (d + 2) 156 35 (jm_st1 [(0, (2, 0)), (1, (0, v1))] 2 (2, 82)) [] ψ9 y9 Q
        refine hw_ald (b := 2) (e := 0) (by decide +kernel) get_st1e (by decide) ?_
        refine hw_k (c := 1) (b := 0) (e := 1) (by decide +kernel) ?_
        refine hr_pz (b := 2) (e := 3) 82 rfl (by decide +kernel) (by decide) ?_
        refine hw_k (c := 1) (b := 0) (e := 1) (by decide +kernel) ?_
        exact hw_ret (a0 := 0) (e := 1) (by decide +kernel) (Or.inr ⟨rfl, by decide⟩) H
      · have H := hf8 q
        refine hw_ald (b := 0) (e := 0) (by decide +kernel) rfl (by decide) ?_
        refine hr_gr (w := 56) (b := 0) (e := 3) 0 rfl (by decide +kernel) ?_
        refine hw_goto (a0 := 0) (b := 0) (e := 26) (by decide +kernel) ?_
        refine hw_ast (L' := (jm_st1 [(0, (2, 0)), (1, (0, v1))] 2 (2, 56))) (b := 2) (e := 0) (by decide +kernel) rfl (by decide) ?_
        refine hw_ald (b := 2) (e := 0) (by decide +kernel) get_st1e (by decide) ?_
        refine hw_ald (b := 0) (e := 0) (by decide +kernel) (get_st1 rfl (by decide) (fun q => absurd q.1 (by decide))) (by decide) ?_
        refine hr_gr (w := 4) (b := 0) (e := 1) 0 rfl (by decide +kernel) ?_
        refine hr_call (a0 := 12) (b := 64) (e := 2) (nl := 2) (As := [(2, 4)]) (R := []) 56 rfl (by decide +kernel) rfl rfl (Nat.le_of_ble_eq_true rfl) (Nat.le_of_ble_eq_true rfl) ?_
        refine hw_mono H ?_
        rintro r ψ11 y11 ⟨hyx, hr, H⟩
        subst hyx
        subst hr
        refine ⟨hnen, ?_⟩
        show hw sc (d + 2) 156 35 (jm_st1 [(0, (2, 0)), (1, (0, v1))] 2 (2, 56)) [] ψ11 y11 Q
        refine hw_ald (b := 2) (e := 0) (by decide +kernel) get_st1e (by decide) ?_
        refine hw_k (c := 1) (b := 0) (e := 1) (by decide +kernel) ?_
        refine hr_pz (b := 2) (e := 3) 56 rfl (by decide +kernel) (by decide) ?_
        refine hw_k (c := 1) (b := 0) (e := 1) (by decide +kernel) ?_
        exact hw_ret (a0 := 0) (e := 1) (by decide +kernel) (Or.inr ⟨rfl, by decide⟩) H
    · have H := hf7 q
      refine hw_k (c := 0) (b := 0) (e := 1) (by decide +kernel) ?_
      exact hw_ret (a0 := 0) (e := 1) (by decide +kernel) (Or.inr ⟨rfl, by decide⟩) H
theorem sf_156_0 {sc : List Int} {d : Nat} {φ : hf_F} {x : Nat} {Q : Option jm_V → hf_F → Nat → Prop} {v1 : Int} (hI : Inv φ) (h1a : (-2147483648 : Int) ≤ v1) (h1b : v1 ≤ 2147483647) (hQ : ∀ (r : Int) (ψ : hf_F), Inv ψ → Fr [58, 59, 60, 61, 62, 63, 64, 65, 66, 67, 68, 70, 71, 72, 73, 74, 75, 76, 77, 79, 80, 81, 84, 85, 86, 87, 88, 89, 90, 91, 92, 93, 94, 96, 97, 98, 99, 100, 101, 102, 103, 105, 106, 107, 57003, 70000, 70001, 70002, 70003, 70004, 70005, 79003, 79004, 79005, 83003, 96000, 96001, 96002, 96003, 96004, 96005, 105003, 105004, 105005] φ ψ → 0 ≤ r ∧ r ≤ 1 ∧ ((r = 1 ∧ (v1 = 0 ∧ ψ 56 3 = 1 ∧ ψ 82 3 = φ 82 3 ∨ v1 = 1 ∧ ψ 82 3 = 1 ∧ ψ 56 3 = φ 56 3)) ∨ (r = 0 ∧ ¬ (v1 = 0 ∨ v1 = 1) ∧ ψ 56 3 = φ 56 3 ∧ ψ 82 3 = φ 82 3)) → F_RideLaws_image_0 φ v1 = (r, ψ) → Q (some (0, r)) ψ x) : hw sc (d + 2) 156 0 [(0, (2, 0)), (1, (0, v1))] [] φ x Q := by
  apply sf_156_0_v
  have e0 : F_RideLaws_image_0 φ v1 = _ := rfl
  refine ⟨by unfold hi; omega, fun q1 => ?_, fun q1 => ?_⟩
  · skip
    have e1a := e0.trans (if_pos q1)
    refine ⟨by unfold hi; omega, fun q2 => ?_, fun q2 => ?_⟩
    · skip
      have e2a := e1a.trans (if_pos q2)
      refine sf_64_82_4 (φ := φ) hI  (fun ψ3 hI3 hF3 hE3 => ⟨rfl, rfl, ?_⟩)
      have hG3 : Fr [58, 59, 60, 61, 62, 63, 64, 65, 66, 67, 68, 70, 71, 72, 73, 74, 75, 76, 77, 79, 80, 81, 84, 85, 86, 87, 88, 89, 90, 91, 92, 93, 94, 96, 97, 98, 99, 100, 101, 102, 103, 105, 106, 107, 57003, 70000, 70001, 70002, 70003, 70004, 70005, 79003, 79004, 79005, 83003, 96000, 96001, 96002, 96003, 96004, 96005, 105003, 105004, 105005] φ ψ3 := fr_tr (fr_rf) hF3 (by decide)
      have e3 := e2a.trans (bnv_e hE3)
      have i1 : Inv (hf_up ψ3 82 3 1) := iv_up (lo := 0) (u := 1) hI3 (by decide +kernel) (by omega) (by omega)
      have r1 : Fr [58, 59, 60, 61, 62, 63, 64, 65, 66, 67, 68, 70, 71, 72, 73, 74, 75, 76, 77, 79, 80, 81, 84, 85, 86, 87, 88, 89, 90, 91, 92, 93, 94, 96, 97, 98, 99, 100, 101, 102, 103, 105, 106, 107, 57003, 70000, 70001, 70002, 70003, 70004, 70005, 79003, 79004, 79005, 83003, 96000, 96001, 96002, 96003, 96004, 96005, 105003, 105004, 105005] φ (hf_up ψ3 82 3 1) := fr_up hG3 (by decide)
      have f2 := iv_at (a := 56) (k := 3) (lo := 0) (u := 1) hI (by decide +kernel)
      have f3 := iv_at (a := 82) (k := 3) (lo := 0) (u := 1) hI (by decide +kernel)
      have f4 : (hf_up ψ3 82 3 1) 56 3 = ψ3 56 3 := (hf_up_ne (fun q => absurd q.1 (by decide)))
      have f5 := iv_at (a := 56) (k := 3) (lo := 0) (u := 1) hI3 (by decide +kernel)
      have f6 : ψ3 56 3 = φ 56 3 := (fr_fd hF3 56 3 (by decide))
      have f7 : (hf_up ψ3 82 3 1) 82 3 = 1 := hf_up_eq
      exact hQ 1 (hf_up ψ3 82 3 1) i1 r1 ⟨by omega, by omega, by omega⟩ e3
    · skip
      have e2b := e1a.trans (if_neg q2)
      refine sf_64_56_4 (φ := φ) hI  (fun ψ5 hI5 hF5 hE5 => ⟨rfl, rfl, ?_⟩)
      have hG5 : Fr [58, 59, 60, 61, 62, 63, 64, 65, 66, 67, 68, 70, 71, 72, 73, 74, 75, 76, 77, 79, 80, 81, 84, 85, 86, 87, 88, 89, 90, 91, 92, 93, 94, 96, 97, 98, 99, 100, 101, 102, 103, 105, 106, 107, 57003, 70000, 70001, 70002, 70003, 70004, 70005, 79003, 79004, 79005, 83003, 96000, 96001, 96002, 96003, 96004, 96005, 105003, 105004, 105005] φ ψ5 := fr_tr (fr_rf) hF5 (by decide)
      have e5 := e2b.trans (bnv_e hE5)
      have i8 : Inv (hf_up ψ5 56 3 1) := iv_up (lo := 0) (u := 1) hI5 (by decide +kernel) (by omega) (by omega)
      have r8 : Fr [58, 59, 60, 61, 62, 63, 64, 65, 66, 67, 68, 70, 71, 72, 73, 74, 75, 76, 77, 79, 80, 81, 84, 85, 86, 87, 88, 89, 90, 91, 92, 93, 94, 96, 97, 98, 99, 100, 101, 102, 103, 105, 106, 107, 57003, 70000, 70001, 70002, 70003, 70004, 70005, 79003, 79004, 79005, 83003, 96000, 96001, 96002, 96003, 96004, 96005, 105003, 105004, 105005] φ (hf_up ψ5 56 3 1) := fr_up hG5 (by decide)
      have f9 := iv_at (a := 56) (k := 3) (lo := 0) (u := 1) hI (by decide +kernel)
      have f10 := iv_at (a := 82) (k := 3) (lo := 0) (u := 1) hI (by decide +kernel)
      have f11 : (hf_up ψ5 56 3 1) 56 3 = 1 := hf_up_eq
      have f12 : (hf_up ψ5 56 3 1) 82 3 = ψ5 82 3 := (hf_up_ne (fun q => absurd q.1 (by decide)))
      have f13 := iv_at (a := 82) (k := 3) (lo := 0) (u := 1) hI5 (by decide +kernel)
      have f14 : ψ5 82 3 = φ 82 3 := (fr_fd hF5 82 3 (by decide))
      exact hQ 1 (hf_up ψ5 56 3 1) i8 r8 ⟨by omega, by omega, by omega⟩ e5
  · skip
    have e1b := e0.trans (if_neg q1)
    refine ⟨by unfold hi; omega, by unfold hi; omega, fun q7 => ?_, fun q7 => ?_⟩
    · skip
      have e7a := e1b.trans (if_pos q7)
      refine ⟨by unfold hi; omega, fun q8 => ?_, fun q8 => ?_⟩
      · skip
        have e8a := e7a.trans (if_pos q8)
        refine sf_64_82_4 (φ := φ) hI  (fun ψ9 hI9 hF9 hE9 => ⟨rfl, rfl, ?_⟩)
        have hG9 : Fr [58, 59, 60, 61, 62, 63, 64, 65, 66, 67, 68, 70, 71, 72, 73, 74, 75, 76, 77, 79, 80, 81, 84, 85, 86, 87, 88, 89, 90, 91, 92, 93, 94, 96, 97, 98, 99, 100, 101, 102, 103, 105, 106, 107, 57003, 70000, 70001, 70002, 70003, 70004, 70005, 79003, 79004, 79005, 83003, 96000, 96001, 96002, 96003, 96004, 96005, 105003, 105004, 105005] φ ψ9 := fr_tr (fr_rf) hF9 (by decide)
        have e9 := e8a.trans (bnv_e hE9)
        have i15 : Inv (hf_up ψ9 82 3 1) := iv_up (lo := 0) (u := 1) hI9 (by decide +kernel) (by omega) (by omega)
        have r15 : Fr [58, 59, 60, 61, 62, 63, 64, 65, 66, 67, 68, 70, 71, 72, 73, 74, 75, 76, 77, 79, 80, 81, 84, 85, 86, 87, 88, 89, 90, 91, 92, 93, 94, 96, 97, 98, 99, 100, 101, 102, 103, 105, 106, 107, 57003, 70000, 70001, 70002, 70003, 70004, 70005, 79003, 79004, 79005, 83003, 96000, 96001, 96002, 96003, 96004, 96005, 105003, 105004, 105005] φ (hf_up ψ9 82 3 1) := fr_up hG9 (by decide)
        have f16 := iv_at (a := 56) (k := 3) (lo := 0) (u := 1) hI (by decide +kernel)
        have f17 := iv_at (a := 82) (k := 3) (lo := 0) (u := 1) hI (by decide +kernel)
        have f18 : (hf_up ψ9 82 3 1) 56 3 = ψ9 56 3 := (hf_up_ne (fun q => absurd q.1 (by decide)))
        have f19 := iv_at (a := 56) (k := 3) (lo := 0) (u := 1) hI9 (by decide +kernel)
        have f20 : ψ9 56 3 = φ 56 3 := (fr_fd hF9 56 3 (by decide))
        have f21 : (hf_up ψ9 82 3 1) 82 3 = 1 := hf_up_eq
        exact hQ 1 (hf_up ψ9 82 3 1) i15 r15 ⟨by omega, by omega, by omega⟩ e9
      · skip
        have e8b := e7a.trans (if_neg q8)
        refine sf_64_56_4 (φ := φ) hI  (fun ψ11 hI11 hF11 hE11 => ⟨rfl, rfl, ?_⟩)
        have hG11 : Fr [58, 59, 60, 61, 62, 63, 64, 65, 66, 67, 68, 70, 71, 72, 73, 74, 75, 76, 77, 79, 80, 81, 84, 85, 86, 87, 88, 89, 90, 91, 92, 93, 94, 96, 97, 98, 99, 100, 101, 102, 103, 105, 106, 107, 57003, 70000, 70001, 70002, 70003, 70004, 70005, 79003, 79004, 79005, 83003, 96000, 96001, 96002, 96003, 96004, 96005, 105003, 105004, 105005] φ ψ11 := fr_tr (fr_rf) hF11 (by decide)
        have e11 := e8b.trans (bnv_e hE11)
        have i22 : Inv (hf_up ψ11 56 3 1) := iv_up (lo := 0) (u := 1) hI11 (by decide +kernel) (by omega) (by omega)
        have r22 : Fr [58, 59, 60, 61, 62, 63, 64, 65, 66, 67, 68, 70, 71, 72, 73, 74, 75, 76, 77, 79, 80, 81, 84, 85, 86, 87, 88, 89, 90, 91, 92, 93, 94, 96, 97, 98, 99, 100, 101, 102, 103, 105, 106, 107, 57003, 70000, 70001, 70002, 70003, 70004, 70005, 79003, 79004, 79005, 83003, 96000, 96001, 96002, 96003, 96004, 96005, 105003, 105004, 105005] φ (hf_up ψ11 56 3 1) := fr_up hG11 (by decide)
        have f23 := iv_at (a := 56) (k := 3) (lo := 0) (u := 1) hI (by decide +kernel)
        have f24 := iv_at (a := 82) (k := 3) (lo := 0) (u := 1) hI (by decide +kernel)
        have f25 : (hf_up ψ11 56 3 1) 56 3 = 1 := hf_up_eq
        have f26 : (hf_up ψ11 56 3 1) 82 3 = ψ11 82 3 := (hf_up_ne (fun q => absurd q.1 (by decide)))
        have f27 := iv_at (a := 82) (k := 3) (lo := 0) (u := 1) hI11 (by decide +kernel)
        have f28 : ψ11 82 3 = φ 82 3 := (fr_fd hF11 82 3 (by decide))
        exact hQ 1 (hf_up ψ11 56 3 1) i22 r22 ⟨by omega, by omega, by omega⟩ e11
    · skip
      have e7b := e1b.trans (if_neg q7)
      have f29 := iv_at (a := 56) (k := 3) (lo := 0) (u := 1) hI (by decide +kernel)
      have f30 := iv_at (a := 82) (k := 3) (lo := 0) (u := 1) hI (by decide +kernel)
      exact hQ 0 φ hI (fr_rf) ⟨by omega, by omega, by omega⟩ e7b
theorem sf_97_187_v12 {sc : List Int} {d : Nat} {φ : hf_F} {x : Nat} {Q : Option jm_V → hf_F → Nat → Prop} {L : jm_L} {l1 l2 l3 : Int} (g0 : jm_get L 0 = some (2, 187)) (g1 : jm_get L 1 = some (0, l1)) (g2 : jm_get L 2 = some (0, l2)) (g3 : jm_get L 3 = some (0, l3))
    (H : 0 ≤ l1 ∧ l1 < 8 ∧ (hi l3 ∧ hi (φ 12 ((l1).toNat)) ∧ ((φ 12 ((l1).toNat)) ≤ l3 → Q (some (0, (-1 : Int))) φ x) ∧ (¬ (φ 12 ((l1).toNat)) ≤ l3 → (¬ (jm_n l2) = 0 → hw sc d 92 0 [(0, (2, 5)), (1, (0, l1)), (2, (0, l2))] [] φ x (fun r ψ5 y5 => y5 = x ∧ φ = ψ5 ∧ (∃ z5 : Int, r = some (0, z5) ∧ (hw sc (d + 1) 97 12 (jm_st1 (jm_st1 L 2 (0, z5)) 3 (0, l3 + 1)) [] φ x Q)))) ∧ (¬ (¬ (jm_n l2) = 0) → Q (some (0, l3)) φ x)))) :
    hw sc (d + 1) 97 12 L [] φ x Q := by
  refine hw_ld (b := 3) (e := 0) (by decide +kernel) g3 ?_
  refine hw_ald (b := 0) (e := 0) (by decide +kernel) g0 (by decide) ?_
  refine hr_gr (w := 5) (b := 9) (e := 0) 187 rfl (by decide +kernel) ?_
  refine hr_gr (w := 12) (b := 3) (e := 6) 5 rfl (by decide +kernel) ?_
  refine hw_ld (b := 1) (e := 0) (by decide +kernel) g1 ?_
  obtain ⟨hl1, hu1, H⟩ := H
  refine hr_al (b := 0) (a0 := 0) (e := 0) (n := 8) (w := φ 12 ((l1).toNat)) 12 rfl (by decide +kernel) (by decide) hl1 hu1 rfl ?_
  obtain ⟨hz2, hy2, ht2, hf2⟩ := H
  refine hw_if2 (a0 := 0) (b := 3) (e := 47) (by decide +kernel) hz2 hy2 (fun q => ?_) (fun q => ?_)
  · have H := ht2 q
    refine hw_k (c := (-1 : Int)) (b := 0) (e := 1) (by decide +kernel) ?_
    exact hw_ret (a0 := 0) (e := 0) (by decide +kernel) (Or.inl rfl) H
  · have H := hf2 q
    refine hw_ld (b := 2) (e := 0) (by decide +kernel) g2 ?_
    obtain ⟨ht4, hf4⟩ := H
    refine hw_ifn (a0 := 0) (b := 1) (e := 31) (by decide +kernel) (fun q => ?_) (fun q => ?_)
    · have H := ht4 q
      refine hw_ald (b := 0) (e := 0) (by decide +kernel) g0 (by decide) ?_
      refine hr_gr (w := 5) (b := 9) (e := 0) 187 rfl (by decide +kernel) ?_
      refine hw_ld (b := 1) (e := 0) (by decide +kernel) g1 ?_
      refine hw_ld (b := 2) (e := 0) (by decide +kernel) g2 ?_
      refine hr_call (a0 := 13) (b := 92) (e := 3) (nl := 4) (As := [(0, l1), (0, l2)]) (R := []) 5 rfl (by decide +kernel) rfl rfl (Nat.le_of_ble_eq_true rfl) (Nat.le_of_ble_eq_true rfl) ?_
      refine hw_mono H ?_
      rintro r ψ5 y5 ⟨hyx, hψx, z5, hr, H⟩
      subst hyx
      subst hψx
      subst hr
      refine ⟨hne0, ?_⟩
      show hw sc (d + 1) 97 40 L [(0, z5)] φ y5 Q
      refine hw_st (L' := (jm_st1 L 2 (0, z5))) (b := 2) (e := 0) (by decide +kernel) rfl ?_
      refine hw_inc (L' := (jm_st1 (jm_st1 L 2 (0, z5)) 3 (0, l3 + 1))) (c := 1) (b := 3) (e := 0) (by decide +kernel) (get_st1 g3 (by decide) (fun q => absurd q.1 (by decide))) rfl ?_
      refine hw_goto (a0 := 0) (b := 0) (e := 12) (by decide +kernel) ?_
      exact H
    · have H := hf4 q
      refine hw_ld (b := 3) (e := 0) (by decide +kernel) g3 ?_
      exact hw_ret (a0 := 0) (e := 0) (by decide +kernel) (Or.inl rfl) H
theorem sf_97_187_l12 {sc : List Int} {d x : Nat} {Q : Option jm_V → hf_F → Nat → Prop} : ∀ (n : Nat) (φ : hf_F) (L : jm_L) (l1 l2 l3 : Int), jm_get L 0 = some (2, 187) → jm_get L 1 = some (0, l1) → jm_get L 2 = some (0, l2) → jm_get L 3 = some (0, l3) → Inv φ → 30 - l3 < (n : Int) → 0 ≤ l1 → l1 ≤ 7 → 0 ≤ l3 → l3 ≤ 30 → (∀ (r : Int), True → F_Outlook_ticksToBox_187_l12 n φ l1 l2 l3 = r → Q (some (0, r)) φ x) → hw sc (d + 1) 97 12 L [] φ x Q := by
  intro n
  induction n with
  | zero =>
    intro φ L l1 l2 l3 g0 g1 g2 g3 hI hM b1a b1b b3a b3b hQ
    exfalso
    omega
  | succ n ih =>
    intro φ L l1 l2 l3 g0 g1 g2 g3 hI hM b1a b1b b3a b3b hQ
    refine sf_97_187_v12 g0 g1 g2 g3 ?_
    have e0 := F_Outlook_ticksToBox_187_l12_s (φ := φ) (l1 := l1) (l2 := l2) (l3 := l3) n
    refine ⟨by omega, by omega, ?_⟩
    have f1 := iv_ar (a := 12) (s := 0) (t := 8) (lo := 0) (u := 30) (z := l1) hI (by decide +kernel) (by omega) (by omega)
    refine ⟨by unfold hi; omega, by unfold hi; omega, fun q2 => ?_, fun q2 => ?_⟩
    · skip
      have e2a := e0.trans (if_pos q2)
      exact hQ (-1 : Int) trivial e2a
    · skip
      have e2b := e0.trans (if_neg q2)
      have f2 := hr_n l2
      refine ⟨fun q4 => ?_, fun q4 => ?_⟩
      · skip
        have e4a := e2b.trans (if_pos q4)
        refine sf_92_5 (φ := φ) hI (by omega) (by omega) (fun z5 hp5 hE5 => ⟨rfl, rfl, z5, rfl, ?_⟩)
        have e5 := e4a.trans (bnp_e hE5)
        exact ih φ (jm_st1 (jm_st1 L 2 (0, z5)) 3 (0, l3 + 1)) l1 z5 (l3 + 1) (get_st1 (get_st1 g0 (by decide) (fun q => absurd q.1 (by decide))) (by decide) (fun q => absurd q.1 (by decide))) (get_st1 (get_st1 g1 (by decide) (fun q => tg0 q.2)) (by decide) (fun q => absurd q.1 (by decide))) (get_st1 get_st1e (by decide) (fun q => tg0 q.2)) get_st1e hI (by omega) (by omega) (by omega) (by omega) (by omega) (fun rr hpχ hEχ => hQ rr hpχ (e5.trans hEχ))
      · skip
        have e4b := e2b.trans (if_neg q4)
        exact hQ l3 trivial e4b
theorem sf_97_187_v {sc : List Int} {d : Nat} {φ : hf_F} {x : Nat} {Q : Option jm_V → hf_F → Nat → Prop} {v1 : Int}
    (H : 0 ≤ v1 ∧ v1 < 8 ∧ (hw sc (d + 1) 97 12 (jm_st1 (jm_st1 [(0, (2, 187)), (1, (0, v1))] 2 (0, φ 18 ((v1).toNat))) 3 (0, 0)) [] φ x Q)) :
    hw sc (d + 1) 97 0 [(0, (2, 187)), (1, (0, v1))] [] φ x Q := by
  refine hw_ald (b := 0) (e := 0) (by decide +kernel) rfl (by decide) ?_
  refine hr_gr (w := 17) (b := 9) (e := 1) 187 rfl (by decide +kernel) ?_
  refine hr_gr (w := 18) (b := 4) (e := 6) 17 rfl (by decide +kernel) ?_
  refine hw_ld (b := 1) (e := 0) (by decide +kernel) rfl ?_
  obtain ⟨hl1, hu1, H⟩ := H
  refine hr_al (b := 0) (a0 := 0) (e := 0) (n := 8) (w := φ 18 ((v1).toNat)) 18 rfl (by decide +kernel) (by decide) hl1 hu1 rfl ?_
  refine hw_st (L' := (jm_st1 [(0, (2, 187)), (1, (0, v1))] 2 (0, φ 18 ((v1).toNat)))) (b := 2) (e := 0) (by decide +kernel) rfl ?_
  refine hw_k (c := 0) (b := 0) (e := 1) (by decide +kernel) ?_
  refine hw_st (L' := (jm_st1 (jm_st1 [(0, (2, 187)), (1, (0, v1))] 2 (0, φ 18 ((v1).toNat))) 3 (0, 0))) (b := 3) (e := 0) (by decide +kernel) rfl ?_
  exact H
theorem sf_97_187 {sc : List Int} {d : Nat} {φ : hf_F} {x : Nat} {Q : Option jm_V → hf_F → Nat → Prop} {v1 : Int} (hI : Inv φ) (h1a : 0 ≤ v1) (h1b : v1 ≤ 7) (hQ : ∀ (r : Int), True → F_Outlook_ticksToBox_187 φ v1 = r → Q (some (0, r)) φ x) : hw sc (d + 1) 97 0 [(0, (2, 187)), (1, (0, v1))] [] φ x Q := by
  apply sf_97_187_v
  have e0 : F_Outlook_ticksToBox_187 φ v1 = _ := rfl
  refine ⟨by omega, by omega, ?_⟩
  exact sf_97_187_l12 ((30 - 0 : Int).toNat + 1) φ (jm_st1 (jm_st1 [(0, (2, 187)), (1, (0, v1))] 2 (0, φ 18 ((v1).toNat))) 3 (0, 0)) v1 (φ 18 ((v1).toNat)) 0 (get_st1 (get_st1 rfl (by decide) (fun q => absurd q.1 (by decide))) (by decide) (fun q => absurd q.1 (by decide))) (get_st1 (get_st1 rfl (by decide) (fun q => tg0 q.2)) (by decide) (fun q => absurd q.1 (by decide))) (get_st1 get_st1e (by decide) (fun q => tg0 q.2)) get_st1e hI (by omega) (by omega) (by omega) (by omega) (by omega) (fun rr hpχ hEχ => hQ rr hpχ (e0.trans hEχ))
theorem sf_96_0_v {sc : List Int} {d : Nat} {φ : hf_F} {x : Nat} {Q : Option jm_V → hf_F → Nat → Prop} {v1 : Int}
    (H : hw sc (d + 1) 70 0 [(0, (2, 0)), (1, (0, 1)), (2, (0, v1))] [] φ x (fun r ψ1 y1 => y1 = x ∧ φ = ψ1 ∧ (∃ z1 : Int, r = some (0, z1) ∧ (hi z1 ∧ (z1 = 0 → Q (some (0, (-1 : Int))) φ x) ∧ (¬ z1 = 0 → hw sc (d + 1) 97 0 [(0, (2, 187)), (1, (0, v1))] [] φ x (fun r ψ4 y4 => y4 = x ∧ φ = ψ4 ∧ (∃ z4 : Int, r = some (0, z4) ∧ (Q (some (0, z4)) φ x)))))))) :
    hw sc (d + 2) 96 0 [(0, (2, 0)), (1, (0, v1))] [] φ x Q := by
  refine hw_ald (b := 0) (e := 0) (by decide +kernel) rfl (by decide) ?_
  refine hw_k (c := 1) (b := 0) (e := 1) (by decide +kernel) ?_
  refine hw_ld (b := 1) (e := 0) (by decide +kernel) rfl ?_
  refine hr_call (a0 := 10) (b := 70) (e := 3) (nl := 3) (As := [(0, 1), (0, v1)]) (R := []) 0 rfl (by decide +kernel) rfl rfl (Nat.le_of_ble_eq_true rfl) (Nat.le_of_ble_eq_true rfl) ?_
  refine hw_mono H ?_
  rintro r ψ1 y1 ⟨hyx, hψx, z1, hr, H⟩
  subst hyx
  subst hψx
  subst hr
  refine ⟨hne0, ?_⟩
  show hw sc (d + 2) 96 6 [(0, (2, 0)), (1, (0, v1))] [(0, z1)] φ y1 Q
  obtain ⟨hz2, ht2, hf2⟩ := H
  refine hw_if (a0 := 0) (b := 0) (e := 20) (by decide +kernel) hz2 (fun q => ?_) (fun q => ?_)
  · have H := ht2 q
    refine hw_k (c := (-1 : Int)) (b := 0) (e := 1) (by decide +kernel) ?_
    exact hw_ret (a0 := 0) (e := 0) (by decide +kernel) (Or.inl rfl) H
  · have H := hf2 q
    refine hw_ald (b := 0) (e := 0) (by decide +kernel) rfl (by decide) ?_
    refine hr_gr (w := 187) (b := 0) (e := 8) 0 rfl (by decide +kernel) ?_
    refine hw_ld (b := 1) (e := 0) (by decide +kernel) rfl ?_
    refine hr_call (a0 := 19) (b := 97) (e := 2) (nl := 4) (As := [(0, v1)]) (R := []) 187 rfl (by decide +kernel) rfl rfl (Nat.le_of_ble_eq_true rfl) (Nat.le_of_ble_eq_true rfl) ?_
    refine hw_mono H ?_
    rintro r ψ4 y4 ⟨hyx, hψx, z4, hr, H⟩
    subst hyx
    subst hψx
    subst hr
    refine ⟨hne0, ?_⟩
    show hw sc (d + 2) 96 17 [(0, (2, 0)), (1, (0, v1))] [(0, z4)] φ y4 Q
    refine hw_goto (a0 := 0) (b := 0) (e := 21) (by decide +kernel) ?_
    exact hw_ret (a0 := 0) (e := 0) (by decide +kernel) (Or.inl rfl) H
theorem sf_96_0 {sc : List Int} {d : Nat} {φ : hf_F} {x : Nat} {Q : Option jm_V → hf_F → Nat → Prop} {v1 : Int} (hI : Inv φ) (h1a : (-2147483648 : Int) ≤ v1) (h1b : v1 ≤ 2147483647) (hQ : ∀ (r : Int), True → F_RideLaws_comes_0 φ v1 = r → Q (some (0, r)) φ x) : hw sc (d + 2) 96 0 [(0, (2, 0)), (1, (0, v1))] [] φ x Q := by
  apply sf_96_0_v
  have e0 : F_RideLaws_comes_0 φ v1 = _ := rfl
  refine sf_70_0_k1_1 (φ := φ) hI (by omega) (by omega) (fun z1 hp1 hE1 => ⟨rfl, rfl, z1, rfl, ?_⟩)
  have e1 := e0.trans (bnp_e hE1)
  have f1 := iv_at (a := 6) (k := 1) (lo := 0) (u := 8) hI (by decide +kernel)
  refine ⟨by unfold hi; omega, fun q2 => ?_, fun q2 => ?_⟩
  · skip
    have e2a := e1.trans (if_pos q2)
    exact hQ (-1 : Int) trivial e2a
  · skip
    have e2b := e1.trans (if_neg q2)
    refine sf_97_187 (φ := φ) hI (by omega) (by omega) (fun z4 hp4 hE4 => ⟨rfl, rfl, z4, rfl, ?_⟩)
    have e4 := e2b.trans (bnp_e hE4)
    exact hQ z4 trivial e4
theorem sf_12_32_k1_0_v5 {sc : List Int} {d : Nat} {φ : hf_F} {x : Nat} {Q : Option jm_V → hf_F → Nat → Prop} {L : jm_L} {l2 : Int} (g0 : jm_get L 0 = some (2, 32)) (g1 : jm_get L 1 = some (0, 0)) (g2 : jm_get L 2 = some (0, l2)) (g3 : jm_get L 3 = some (0, 5))
    (H : hi l2 ∧ hi 5 ∧ (5 ≤ l2 → Q none φ x) ∧ (¬ 5 ≤ l2 → 0 ≤ l2 ∧ l2 < 5 ∧ (hw sc d 12 5 (jm_st1 L 2 (0, l2 + 1)) [] (hf_up φ 32 ((l2).toNat) 0) x Q))) :
    hw sc d 12 5 L [] φ x Q := by
  refine hw_ld (b := 2) (e := 0) (by decide +kernel) g2 ?_
  refine hw_ld (b := 3) (e := 0) (by decide +kernel) g3 ?_
  obtain ⟨hz1, hy1, ht1, hf1⟩ := H
  refine hw_if2 (a0 := 0) (b := 3) (e := 20) (by decide +kernel) hz1 hy1 (fun q => ?_) (fun q => ?_)
  · have H := ht1 q
    exact hw_vret (a0 := 0) (e := 0) (by decide +kernel) H
  · have H := hf1 q
    refine hw_ald (b := 0) (e := 0) (by decide +kernel) g0 (by decide) ?_
    refine hw_ld (b := 2) (e := 0) (by decide +kernel) g2 ?_
    refine hw_ld (b := 1) (e := 0) (by decide +kernel) g1 ?_
    obtain ⟨hl3, hu3, H⟩ := H
    refine hr_as (a0 := 0) (e := 4) (n := 5) 32 rfl (by decide +kernel) hl3 hu3 ?_
    refine hw_inc (L' := (jm_st1 L 2 (0, l2 + 1))) (c := 1) (b := 2) (e := 0) (by decide +kernel) g2 rfl ?_
    refine hw_goto (a0 := 0) (b := 0) (e := 5) (by decide +kernel) ?_
    exact H
theorem sf_12_32_k1_0_l5 {sc : List Int} {d x : Nat} {Q : Option jm_V → hf_F → Nat → Prop} : ∀ (n : Nat) (φ : hf_F) (L : jm_L) (l2 : Int), jm_get L 0 = some (2, 32) → jm_get L 1 = some (0, 0) → jm_get L 2 = some (0, l2) → jm_get L 3 = some (0, 5) → Inv φ → 5 - l2 < (n : Int) → 0 ≤ l2 → l2 ≤ 5 → (∀ ψ : hf_F, Inv ψ → Fr [32] φ ψ → F_java_util_Arrays_fill_32_k1_0_l5 n φ l2 = ψ → Q none ψ x) → hw sc d 12 5 L [] φ x Q := by
  intro n
  induction n with
  | zero =>
    intro φ L l2 g0 g1 g2 g3 hI hM b2a b2b hQ
    exfalso
    omega
  | succ n ih =>
    intro φ L l2 g0 g1 g2 g3 hI hM b2a b2b hQ
    refine sf_12_32_k1_0_v5 g0 g1 g2 g3 ?_
    have e0 := F_java_util_Arrays_fill_32_k1_0_l5_s (φ := φ) (l2 := l2) n
    refine ⟨by unfold hi; omega, by unfold hi; omega, fun q1 => ?_, fun q1 => ?_⟩
    · skip
      have e1a := e0.trans (if_pos q1)
      exact hQ φ hI (fr_rf) e1a
    · skip
      have e1b := e0.trans (if_neg q1)
      refine ⟨by omega, by omega, ?_⟩
      have i1 : Inv (hf_up φ 32 ((l2).toNat) 0) := iv_upS (s := 0) (t := 5) (z := l2) hI (by decide +kernel) (by omega) (by omega)
      have r1 : Fr [32] φ (hf_up φ 32 ((l2).toNat) 0) := fr_upa (fr_rf) (by decide)
      exact ih (hf_up φ 32 ((l2).toNat) 0) (jm_st1 L 2 (0, l2 + 1)) (l2 + 1) (get_st1 g0 (by decide) (fun q => absurd q.1 (by decide))) (get_st1 g1 (by decide) (fun q => tg0 q.2)) get_st1e (get_st1 g3 (by decide) (fun q => absurd q.1 (by decide))) i1 (by omega) (by omega) (by omega) (fun χ hIχ hFχ hEχ => hQ χ hIχ (fr_tr r1 hFχ (by decide)) (e1b.trans hEχ))
theorem sf_12_32_k1_0_v {sc : List Int} {d : Nat} {φ : hf_F} {x : Nat} {Q : Option jm_V → hf_F → Nat → Prop} 
    (H : hw sc d 12 5 (jm_st1 (jm_st1 [(0, (2, 32)), (1, (0, 0))] 2 (0, 0)) 3 (0, 5)) [] φ x Q) :
    hw sc d 12 0 [(0, (2, 32)), (1, (0, 0))] [] φ x Q := by
  refine hw_k (c := 0) (b := 0) (e := 1) (by decide +kernel) ?_
  refine hw_st (L' := (jm_st1 [(0, (2, 32)), (1, (0, 0))] 2 (0, 0))) (b := 2) (e := 0) (by decide +kernel) rfl ?_
  refine hw_ald (b := 0) (e := 0) (by decide +kernel) (get_st1 rfl (by decide) (fun q => absurd q.1 (by decide))) (by decide) ?_
  refine hr_len (n := 5) (a0 := 0) (b := 0) (e := 0) 32 rfl (by decide +kernel) ?_
  refine hw_st (L' := (jm_st1 (jm_st1 [(0, (2, 32)), (1, (0, 0))] 2 (0, 0)) 3 (0, 5))) (b := 3) (e := 0) (by decide +kernel) rfl ?_
  exact H
theorem sf_12_32_k1_0 {sc : List Int} {d : Nat} {φ : hf_F} {x : Nat} {Q : Option jm_V → hf_F → Nat → Prop}  (hI : Inv φ)  (hQ : ∀ ψ : hf_F, Inv ψ → Fr [32] φ ψ → F_java_util_Arrays_fill_32_k1_0 φ = ψ → Q none ψ x) : hw sc d 12 0 [(0, (2, 32)), (1, (0, 0))] [] φ x Q := by
  apply sf_12_32_k1_0_v
  have e0 : F_java_util_Arrays_fill_32_k1_0 φ = _ := rfl
  exact sf_12_32_k1_0_l5 ((5 - 0 : Int).toNat + 1) φ (jm_st1 (jm_st1 [(0, (2, 32)), (1, (0, 0))] 2 (0, 0)) 3 (0, 5)) 0 (get_st1 (get_st1 rfl (by decide) (fun q => absurd q.1 (by decide))) (by decide) (fun q => absurd q.1 (by decide))) (get_st1 (get_st1 rfl (by decide) (fun q => tg0 q.2)) (by decide) (fun q => absurd q.1 (by decide))) (get_st1 get_st1e (by decide) (fun q => tg0 q.2)) get_st1e hI (by omega) (by omega) (by omega) (fun χ hIχ hFχ hEχ => hQ χ hIχ (fr_tr (fr_rf) hFχ (by decide)) (e0.trans hEχ))
theorem sf_12_41_k1_0_v5 {sc : List Int} {d : Nat} {φ : hf_F} {x : Nat} {Q : Option jm_V → hf_F → Nat → Prop} {L : jm_L} {l2 : Int} (g0 : jm_get L 0 = some (2, 41)) (g1 : jm_get L 1 = some (0, 0)) (g2 : jm_get L 2 = some (0, l2)) (g3 : jm_get L 3 = some (0, 8))
    (H : hi l2 ∧ hi 8 ∧ (8 ≤ l2 → Q none φ x) ∧ (¬ 8 ≤ l2 → 0 ≤ l2 ∧ l2 < 8 ∧ (hw sc d 12 5 (jm_st1 L 2 (0, l2 + 1)) [] (hf_up φ 41 ((l2).toNat) 0) x Q))) :
    hw sc d 12 5 L [] φ x Q := by
  refine hw_ld (b := 2) (e := 0) (by decide +kernel) g2 ?_
  refine hw_ld (b := 3) (e := 0) (by decide +kernel) g3 ?_
  obtain ⟨hz1, hy1, ht1, hf1⟩ := H
  refine hw_if2 (a0 := 0) (b := 3) (e := 20) (by decide +kernel) hz1 hy1 (fun q => ?_) (fun q => ?_)
  · have H := ht1 q
    exact hw_vret (a0 := 0) (e := 0) (by decide +kernel) H
  · have H := hf1 q
    refine hw_ald (b := 0) (e := 0) (by decide +kernel) g0 (by decide) ?_
    refine hw_ld (b := 2) (e := 0) (by decide +kernel) g2 ?_
    refine hw_ld (b := 1) (e := 0) (by decide +kernel) g1 ?_
    obtain ⟨hl3, hu3, H⟩ := H
    refine hr_as (a0 := 0) (e := 4) (n := 8) 41 rfl (by decide +kernel) hl3 hu3 ?_
    refine hw_inc (L' := (jm_st1 L 2 (0, l2 + 1))) (c := 1) (b := 2) (e := 0) (by decide +kernel) g2 rfl ?_
    refine hw_goto (a0 := 0) (b := 0) (e := 5) (by decide +kernel) ?_
    exact H
theorem sf_12_41_k1_0_l5 {sc : List Int} {d x : Nat} {Q : Option jm_V → hf_F → Nat → Prop} : ∀ (n : Nat) (φ : hf_F) (L : jm_L) (l2 : Int), jm_get L 0 = some (2, 41) → jm_get L 1 = some (0, 0) → jm_get L 2 = some (0, l2) → jm_get L 3 = some (0, 8) → Inv φ → 8 - l2 < (n : Int) → 0 ≤ l2 → l2 ≤ 8 → (∀ ψ : hf_F, Inv ψ → Fr [41] φ ψ → F_java_util_Arrays_fill_41_k1_0_l5 n φ l2 = ψ → Q none ψ x) → hw sc d 12 5 L [] φ x Q := by
  intro n
  induction n with
  | zero =>
    intro φ L l2 g0 g1 g2 g3 hI hM b2a b2b hQ
    exfalso
    omega
  | succ n ih =>
    intro φ L l2 g0 g1 g2 g3 hI hM b2a b2b hQ
    refine sf_12_41_k1_0_v5 g0 g1 g2 g3 ?_
    have e0 := F_java_util_Arrays_fill_41_k1_0_l5_s (φ := φ) (l2 := l2) n
    refine ⟨by unfold hi; omega, by unfold hi; omega, fun q1 => ?_, fun q1 => ?_⟩
    · skip
      have e1a := e0.trans (if_pos q1)
      exact hQ φ hI (fr_rf) e1a
    · skip
      have e1b := e0.trans (if_neg q1)
      refine ⟨by omega, by omega, ?_⟩
      have i1 : Inv (hf_up φ 41 ((l2).toNat) 0) := iv_upI (s := 0) (t := 8) (lo := (-2147483648 : Int)) (u := 2147483647) (z := l2) hI (by decide +kernel) (by omega) (by omega) (by omega) (by omega)
      have r1 : Fr [41] φ (hf_up φ 41 ((l2).toNat) 0) := fr_upa (fr_rf) (by decide)
      exact ih (hf_up φ 41 ((l2).toNat) 0) (jm_st1 L 2 (0, l2 + 1)) (l2 + 1) (get_st1 g0 (by decide) (fun q => absurd q.1 (by decide))) (get_st1 g1 (by decide) (fun q => tg0 q.2)) get_st1e (get_st1 g3 (by decide) (fun q => absurd q.1 (by decide))) i1 (by omega) (by omega) (by omega) (fun χ hIχ hFχ hEχ => hQ χ hIχ (fr_tr r1 hFχ (by decide)) (e1b.trans hEχ))
theorem sf_12_41_k1_0_v {sc : List Int} {d : Nat} {φ : hf_F} {x : Nat} {Q : Option jm_V → hf_F → Nat → Prop} 
    (H : hw sc d 12 5 (jm_st1 (jm_st1 [(0, (2, 41)), (1, (0, 0))] 2 (0, 0)) 3 (0, 8)) [] φ x Q) :
    hw sc d 12 0 [(0, (2, 41)), (1, (0, 0))] [] φ x Q := by
  refine hw_k (c := 0) (b := 0) (e := 1) (by decide +kernel) ?_
  refine hw_st (L' := (jm_st1 [(0, (2, 41)), (1, (0, 0))] 2 (0, 0))) (b := 2) (e := 0) (by decide +kernel) rfl ?_
  refine hw_ald (b := 0) (e := 0) (by decide +kernel) (get_st1 rfl (by decide) (fun q => absurd q.1 (by decide))) (by decide) ?_
  refine hr_len (n := 8) (a0 := 0) (b := 0) (e := 0) 41 rfl (by decide +kernel) ?_
  refine hw_st (L' := (jm_st1 (jm_st1 [(0, (2, 41)), (1, (0, 0))] 2 (0, 0)) 3 (0, 8))) (b := 3) (e := 0) (by decide +kernel) rfl ?_
  exact H
theorem sf_12_41_k1_0 {sc : List Int} {d : Nat} {φ : hf_F} {x : Nat} {Q : Option jm_V → hf_F → Nat → Prop}  (hI : Inv φ)  (hQ : ∀ ψ : hf_F, Inv ψ → Fr [41] φ ψ → F_java_util_Arrays_fill_41_k1_0 φ = ψ → Q none ψ x) : hw sc d 12 0 [(0, (2, 41)), (1, (0, 0))] [] φ x Q := by
  apply sf_12_41_k1_0_v
  have e0 : F_java_util_Arrays_fill_41_k1_0 φ = _ := rfl
  exact sf_12_41_k1_0_l5 ((8 - 0 : Int).toNat + 1) φ (jm_st1 (jm_st1 [(0, (2, 41)), (1, (0, 0))] 2 (0, 0)) 3 (0, 8)) 0 (get_st1 (get_st1 rfl (by decide) (fun q => absurd q.1 (by decide))) (by decide) (fun q => absurd q.1 (by decide))) (get_st1 (get_st1 rfl (by decide) (fun q => tg0 q.2)) (by decide) (fun q => absurd q.1 (by decide))) (get_st1 get_st1e (by decide) (fun q => tg0 q.2)) get_st1e hI (by omega) (by omega) (by omega) (fun χ hIχ hFχ hEχ => hQ χ hIχ (fr_tr (fr_rf) hFχ (by decide)) (e0.trans hEχ))
theorem sf_12_42_k1_m1_v5 {sc : List Int} {d : Nat} {φ : hf_F} {x : Nat} {Q : Option jm_V → hf_F → Nat → Prop} {L : jm_L} {l2 : Int} (g0 : jm_get L 0 = some (2, 42)) (g1 : jm_get L 1 = some (0, (-1 : Int))) (g2 : jm_get L 2 = some (0, l2)) (g3 : jm_get L 3 = some (0, 64))
    (H : hi l2 ∧ hi 64 ∧ (64 ≤ l2 → Q none φ x) ∧ (¬ 64 ≤ l2 → 0 ≤ l2 ∧ l2 < 64 ∧ (hw sc d 12 5 (jm_st1 L 2 (0, l2 + 1)) [] (hf_up φ 42 ((l2).toNat) (-1 : Int)) x Q))) :
    hw sc d 12 5 L [] φ x Q := by
  refine hw_ld (b := 2) (e := 0) (by decide +kernel) g2 ?_
  refine hw_ld (b := 3) (e := 0) (by decide +kernel) g3 ?_
  obtain ⟨hz1, hy1, ht1, hf1⟩ := H
  refine hw_if2 (a0 := 0) (b := 3) (e := 20) (by decide +kernel) hz1 hy1 (fun q => ?_) (fun q => ?_)
  · have H := ht1 q
    exact hw_vret (a0 := 0) (e := 0) (by decide +kernel) H
  · have H := hf1 q
    refine hw_ald (b := 0) (e := 0) (by decide +kernel) g0 (by decide) ?_
    refine hw_ld (b := 2) (e := 0) (by decide +kernel) g2 ?_
    refine hw_ld (b := 1) (e := 0) (by decide +kernel) g1 ?_
    obtain ⟨hl3, hu3, H⟩ := H
    refine hr_as (a0 := 0) (e := 4) (n := 64) 42 rfl (by decide +kernel) hl3 hu3 ?_
    refine hw_inc (L' := (jm_st1 L 2 (0, l2 + 1))) (c := 1) (b := 2) (e := 0) (by decide +kernel) g2 rfl ?_
    refine hw_goto (a0 := 0) (b := 0) (e := 5) (by decide +kernel) ?_
    exact H
theorem sf_12_42_k1_m1_l5 {sc : List Int} {d x : Nat} {Q : Option jm_V → hf_F → Nat → Prop} : ∀ (n : Nat) (φ : hf_F) (L : jm_L) (l2 : Int), jm_get L 0 = some (2, 42) → jm_get L 1 = some (0, (-1 : Int)) → jm_get L 2 = some (0, l2) → jm_get L 3 = some (0, 64) → Inv φ → 64 - l2 < (n : Int) → 0 ≤ l2 → l2 ≤ 64 → (∀ ψ : hf_F, Inv ψ → Fr [42] φ ψ → F_java_util_Arrays_fill_42_k1_m1_l5 n φ l2 = ψ → Q none ψ x) → hw sc d 12 5 L [] φ x Q := by
  intro n
  induction n with
  | zero =>
    intro φ L l2 g0 g1 g2 g3 hI hM b2a b2b hQ
    exfalso
    omega
  | succ n ih =>
    intro φ L l2 g0 g1 g2 g3 hI hM b2a b2b hQ
    refine sf_12_42_k1_m1_v5 g0 g1 g2 g3 ?_
    have e0 := F_java_util_Arrays_fill_42_k1_m1_l5_s (φ := φ) (l2 := l2) n
    refine ⟨by unfold hi; omega, by unfold hi; omega, fun q1 => ?_, fun q1 => ?_⟩
    · skip
      have e1a := e0.trans (if_pos q1)
      exact hQ φ hI (fr_rf) e1a
    · skip
      have e1b := e0.trans (if_neg q1)
      refine ⟨by omega, by omega, ?_⟩
      have i1 : Inv (hf_up φ 42 ((l2).toNat) (-1 : Int)) := iv_upI (s := 0) (t := 64) (lo := (-1 : Int)) (u := 7) (z := l2) hI (by decide +kernel) (by omega) (by omega) (by omega) (by omega)
      have r1 : Fr [42] φ (hf_up φ 42 ((l2).toNat) (-1 : Int)) := fr_upa (fr_rf) (by decide)
      exact ih (hf_up φ 42 ((l2).toNat) (-1 : Int)) (jm_st1 L 2 (0, l2 + 1)) (l2 + 1) (get_st1 g0 (by decide) (fun q => absurd q.1 (by decide))) (get_st1 g1 (by decide) (fun q => tg0 q.2)) get_st1e (get_st1 g3 (by decide) (fun q => absurd q.1 (by decide))) i1 (by omega) (by omega) (by omega) (fun χ hIχ hFχ hEχ => hQ χ hIχ (fr_tr r1 hFχ (by decide)) (e1b.trans hEχ))
theorem sf_12_42_k1_m1_v {sc : List Int} {d : Nat} {φ : hf_F} {x : Nat} {Q : Option jm_V → hf_F → Nat → Prop} 
    (H : hw sc d 12 5 (jm_st1 (jm_st1 [(0, (2, 42)), (1, (0, (-1 : Int)))] 2 (0, 0)) 3 (0, 64)) [] φ x Q) :
    hw sc d 12 0 [(0, (2, 42)), (1, (0, (-1 : Int)))] [] φ x Q := by
  refine hw_k (c := 0) (b := 0) (e := 1) (by decide +kernel) ?_
  refine hw_st (L' := (jm_st1 [(0, (2, 42)), (1, (0, (-1 : Int)))] 2 (0, 0))) (b := 2) (e := 0) (by decide +kernel) rfl ?_
  refine hw_ald (b := 0) (e := 0) (by decide +kernel) (get_st1 rfl (by decide) (fun q => absurd q.1 (by decide))) (by decide) ?_
  refine hr_len (n := 64) (a0 := 0) (b := 0) (e := 0) 42 rfl (by decide +kernel) ?_
  refine hw_st (L' := (jm_st1 (jm_st1 [(0, (2, 42)), (1, (0, (-1 : Int)))] 2 (0, 0)) 3 (0, 64))) (b := 3) (e := 0) (by decide +kernel) rfl ?_
  exact H
theorem sf_12_42_k1_m1 {sc : List Int} {d : Nat} {φ : hf_F} {x : Nat} {Q : Option jm_V → hf_F → Nat → Prop}  (hI : Inv φ)  (hQ : ∀ ψ : hf_F, Inv ψ → Fr [42] φ ψ → F_java_util_Arrays_fill_42_k1_m1 φ = ψ → Q none ψ x) : hw sc d 12 0 [(0, (2, 42)), (1, (0, (-1 : Int)))] [] φ x Q := by
  apply sf_12_42_k1_m1_v
  have e0 : F_java_util_Arrays_fill_42_k1_m1 φ = _ := rfl
  exact sf_12_42_k1_m1_l5 ((64 - 0 : Int).toNat + 1) φ (jm_st1 (jm_st1 [(0, (2, 42)), (1, (0, (-1 : Int)))] 2 (0, 0)) 3 (0, 64)) 0 (get_st1 (get_st1 rfl (by decide) (fun q => absurd q.1 (by decide))) (by decide) (fun q => absurd q.1 (by decide))) (get_st1 (get_st1 rfl (by decide) (fun q => tg0 q.2)) (by decide) (fun q => absurd q.1 (by decide))) (get_st1 get_st1e (by decide) (fun q => tg0 q.2)) get_st1e hI (by omega) (by omega) (by omega) (fun χ hIχ hFχ hEχ => hQ χ hIχ (fr_tr (fr_rf) hFχ (by decide)) (e0.trans hEχ))
theorem sf_26_31_v {sc : List Int} {d : Nat} {φ : hf_F} {x : Nat} {Q : Option jm_V → hf_F → Nat → Prop} 
    (H : hw sc d 12 0 [(0, (2, 32)), (1, (0, 0))] [] φ x (fun r ψ1 y1 => y1 = x ∧ (r = none ∧ (hw sc d 12 0 [(0, (2, 41)), (1, (0, 0))] [] ψ1 x (fun r ψ2 y2 => y2 = x ∧ (r = none ∧ (hw sc d 12 0 [(0, (2, 42)), (1, (0, (-1 : Int)))] [] ψ2 x (fun r ψ3 y3 => y3 = x ∧ (r = none ∧ (Q none ψ3 x)))))))))) :
    hw sc (d + 1) 26 0 [(0, (2, 31))] [] φ x Q := by
  refine hw_ald (b := 0) (e := 0) (by decide +kernel) rfl (by decide) ?_
  refine hr_gr (w := 32) (b := 3) (e := 0) 31 rfl (by decide +kernel) ?_
  refine hw_k (c := 0) (b := 0) (e := 1) (by decide +kernel) ?_
  refine hr_calls (b := 12) (e := 2) (nl := 4) (As := [(2, 32), (0, 0)]) (R := []) (by decide +kernel) rfl rfl (Nat.le_of_ble_eq_true rfl) (Nat.le_of_ble_eq_true rfl) ?_
  refine hw_mono H ?_
  rintro r ψ1 y1 ⟨hyx, hr, H⟩
  subst hyx
  subst hr
  refine ⟨hnen, ?_⟩
  show hw sc (d + 1) 26 8 [(0, (2, 31))] [] ψ1 y1 Q
  refine hw_ald (b := 0) (e := 0) (by decide +kernel) rfl (by decide) ?_
  refine hr_gr (w := 41) (b := 3) (e := 9) 31 rfl (by decide +kernel) ?_
  refine hw_k (c := 0) (b := 0) (e := 1) (by decide +kernel) ?_
  refine hr_calls (b := 12) (e := 2) (nl := 4) (As := [(2, 41), (0, 0)]) (R := []) (by decide +kernel) rfl rfl (Nat.le_of_ble_eq_true rfl) (Nat.le_of_ble_eq_true rfl) ?_
  refine hw_mono H ?_
  rintro r ψ2 y2 ⟨hyx, hr, H⟩
  subst hyx
  subst hr
  refine ⟨hnen, ?_⟩
  show hw sc (d + 1) 26 16 [(0, (2, 31))] [] ψ2 y2 Q
  refine hw_ald (b := 0) (e := 0) (by decide +kernel) rfl (by decide) ?_
  refine hr_gr (w := 42) (b := 3) (e := 10) 31 rfl (by decide +kernel) ?_
  refine hw_k (c := (-1 : Int)) (b := 0) (e := 1) (by decide +kernel) ?_
  refine hr_calls (b := 12) (e := 2) (nl := 4) (As := [(2, 42), (0, (-1 : Int))]) (R := []) (by decide +kernel) rfl rfl (Nat.le_of_ble_eq_true rfl) (Nat.le_of_ble_eq_true rfl) ?_
  refine hw_mono H ?_
  rintro r ψ3 y3 ⟨hyx, hr, H⟩
  subst hyx
  subst hr
  refine ⟨hnen, ?_⟩
  show hw sc (d + 1) 26 24 [(0, (2, 31))] [] ψ3 y3 Q
  exact hw_vret (a0 := 0) (e := 0) (by decide +kernel) H
theorem sf_26_31 {sc : List Int} {d : Nat} {φ : hf_F} {x : Nat} {Q : Option jm_V → hf_F → Nat → Prop}  (hI : Inv φ)  (hQ : ∀ ψ : hf_F, Inv ψ → Fr [32, 41, 42] φ ψ → F_Plan_forget_31 φ = ψ → Q none ψ x) : hw sc (d + 1) 26 0 [(0, (2, 31))] [] φ x Q := by
  apply sf_26_31_v
  have e0 : F_Plan_forget_31 φ = _ := rfl
  refine sf_12_32_k1_0 (φ := φ) hI  (fun ψ1 hI1 hF1 hE1 => ⟨rfl, rfl, ?_⟩)
  have hG1 : Fr [32, 41, 42] φ ψ1 := fr_tr (fr_rf) hF1 (by decide)
  have e1 := e0.trans (bnv_e hE1)
  refine sf_12_41_k1_0 (φ := ψ1) hI1  (fun ψ2 hI2 hF2 hE2 => ⟨rfl, rfl, ?_⟩)
  have hG2 : Fr [32, 41, 42] φ ψ2 := fr_tr hG1 hF2 (by decide)
  have e2 := e1.trans (bnv_e hE2)
  refine sf_12_42_k1_m1 (φ := ψ2) hI2  (fun ψ3 hI3 hF3 hE3 => ⟨rfl, rfl, ?_⟩)
  have hG3 : Fr [32, 41, 42] φ ψ3 := fr_tr hG2 hF3 (by decide)
  have e3 := e2.trans (bnv_e hE3)
  exact hQ ψ3 hI3 hG3 e3
