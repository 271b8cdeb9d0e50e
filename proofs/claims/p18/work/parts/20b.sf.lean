theorem sf_65_5_31_v {sc : List Int} {d : Nat} {φ : hf_F} {x : Nat} {Q : Option jm_V → hf_F → Nat → Prop} 
    (H : Q none (hf_cp (hf_cp (hf_cp (hf_cp (hf_cp (hf_cp (hf_cp (hf_cp (hf_cp (hf_cp (hf_cp φ 32 6 5) 33 7 40) 34 8 3) 35 9 3) 36 10 8) 37 11 8) 38 12 8) 39 13 8) 40 14 8) 41 15 8) 42 16 64) x) :
    hw sc d 65 0 [(0, (2, 5)), (1, (2, 31))] [] φ x Q := by
  refine hw_ald (b := 1) (e := 0) (by decide +kernel) rfl (by decide) ?_
  refine hr_gr (w := 32) (b := 3) (e := 0) 31 rfl (by decide +kernel) ?_
  refine hw_k (c := 0) (b := 0) (e := 1) (by decide +kernel) ?_
  refine hw_ald (b := 0) (e := 0) (by decide +kernel) rfl (by decide) ?_
  refine hr_gr (w := 6) (b := 3) (e := 0) 5 rfl (by decide +kernel) ?_
  refine hw_k (c := 0) (b := 0) (e := 1) (by decide +kernel) ?_
  refine hw_k (c := 5) (b := 0) (e := 1) (by decide +kernel) ?_
  refine hr_cp (a0 := 0) (b0 := 0) (e := 0) 32 6 5 rfl rfl rfl (by decide +kernel) (Nat.le_of_ble_eq_true rfl) ?_
  refine hw_ald (b := 1) (e := 0) (by decide +kernel) rfl (by decide) ?_
  refine hr_gr (w := 33) (b := 3) (e := 1) 31 rfl (by decide +kernel) ?_
  refine hw_k (c := 0) (b := 0) (e := 1) (by decide +kernel) ?_
  refine hw_ald (b := 0) (e := 0) (by decide +kernel) rfl (by decide) ?_
  refine hr_gr (w := 7) (b := 3) (e := 1) 5 rfl (by decide +kernel) ?_
  refine hw_k (c := 0) (b := 0) (e := 1) (by decide +kernel) ?_
  refine hw_k (c := 40) (b := 1) (e := 2) (by decide +kernel) ?_
  refine hr_cp (a0 := 0) (b0 := 0) (e := 0) 33 7 40 rfl rfl rfl (by decide +kernel) (Nat.le_of_ble_eq_true rfl) ?_
  refine hw_ald (b := 1) (e := 0) (by decide +kernel) rfl (by decide) ?_
  refine hr_gr (w := 34) (b := 3) (e := 2) 31 rfl (by decide +kernel) ?_
  refine hw_k (c := 0) (b := 0) (e := 1) (by decide +kernel) ?_
  refine hw_ald (b := 0) (e := 0) (by decide +kernel) rfl (by decide) ?_
  refine hr_gr (w := 8) (b := 3) (e := 2) 5 rfl (by decide +kernel) ?_
  refine hw_k (c := 0) (b := 0) (e := 1) (by decide +kernel) ?_
  refine hw_k (c := 3) (b := 0) (e := 1) (by decide +kernel) ?_
  refine hr_cp (a0 := 0) (b0 := 0) (e := 0) 34 8 3 rfl rfl rfl (by decide +kernel) (Nat.le_of_ble_eq_true rfl) ?_
  refine hw_ald (b := 1) (e := 0) (by decide +kernel) rfl (by decide) ?_
  refine hr_gr (w := 35) (b := 3) (e := 3) 31 rfl (by decide +kernel) ?_
  refine hw_k (c := 0) (b := 0) (e := 1) (by decide +kernel) ?_
  refine hw_ald (b := 0) (e := 0) (by decide +kernel) rfl (by decide) ?_
  refine hr_gr (w := 9) (b := 3) (e := 3) 5 rfl (by decide +kernel) ?_
  refine hw_k (c := 0) (b := 0) (e := 1) (by decide +kernel) ?_
  refine hw_k (c := 3) (b := 0) (e := 1) (by decide +kernel) ?_
  refine hr_cp (a0 := 0) (b0 := 0) (e := 0) 35 9 3 rfl rfl rfl (by decide +kernel) (Nat.le_of_ble_eq_true rfl) ?_
  refine hw_ald (b := 1) (e := 0) (by decide +kernel) rfl (by decide) ?_
  refine hr_gr (w := 36) (b := 3) (e := 4) 31 rfl (by decide +kernel) ?_
  refine hw_k (c := 0) (b := 0) (e := 1) (by decide +kernel) ?_
  refine hw_ald (b := 0) (e := 0) (by decide +kernel) rfl (by decide) ?_
  refine hr_gr (w := 10) (b := 3) (e := 4) 5 rfl (by decide +kernel) ?_
  refine hw_k (c := 0) (b := 0) (e := 1) (by decide +kernel) ?_
  refine hw_k (c := 8) (b := 1) (e := 2) (by decide +kernel) ?_
  refine hr_cp (a0 := 0) (b0 := 0) (e := 0) 36 10 8 rfl rfl rfl (by decide +kernel) (Nat.le_of_ble_eq_true rfl) ?_
  refine hw_ald (b := 1) (e := 0) (by decide +kernel) rfl (by decide) ?_
  refine hr_gr (w := 37) (b := 3) (e := 5) 31 rfl (by decide +kernel) ?_
  refine hw_k (c := 0) (b := 0) (e := 1) (by decide +kernel) ?_
  refine hw_ald (b := 0) (e := 0) (by decide +kernel) rfl (by decide) ?_
  refine hr_gr (w := 11) (b := 3) (e := 5) 5 rfl (by decide +kernel) ?_
  refine hw_k (c := 0) (b := 0) (e := 1) (by decide +kernel) ?_
  refine hw_k (c := 8) (b := 1) (e := 2) (by decide +kernel) ?_
  refine hr_cp (a0 := 0) (b0 := 0) (e := 0) 37 11 8 rfl rfl rfl (by decide +kernel) (Nat.le_of_ble_eq_true rfl) ?_
  refine hw_ald (b := 1) (e := 0) (by decide +kernel) rfl (by decide) ?_
  refine hr_gr (w := 38) (b := 3) (e := 6) 31 rfl (by decide +kernel) ?_
  refine hw_k (c := 0) (b := 0) (e := 1) (by decide +kernel) ?_
  refine hw_ald (b := 0) (e := 0) (by decide +kernel) rfl (by decide) ?_
  refine hr_gr (w := 12) (b := 3) (e := 6) 5 rfl (by decide +kernel) ?_
  refine hw_k (c := 0) (b := 0) (e := 1) (by decide +kernel) ?_
  refine hw_k (c := 8) (b := 1) (e := 2) (by decide +kernel) ?_
  refine hr_cp (a0 := 0) (b0 := 0) (e := 0) 38 12 8 rfl rfl rfl (by decide +kernel) (Nat.le_of_ble_eq_true rfl) ?_
  refine hw_ald (b := 1) (e := 0) (by decide +kernel) rfl (by decide) ?_
  refine hr_gr (w := 39) (b := 3) (e := 7) 31 rfl (by decide +kernel) ?_
  refine hw_k (c := 0) (b := 0) (e := 1) (by decide +kernel) ?_
  refine hw_ald (b := 0) (e := 0) (by decide +kernel) rfl (by decide) ?_
  refine hr_gr (w := 13) (b := 3) (e := 7) 5 rfl (by decide +kernel) ?_
  refine hw_k (c := 0) (b := 0) (e := 1) (by decide +kernel) ?_
  refine hw_k (c := 8) (b := 1) (e := 2) (by decide +kernel) ?_
  refine hr_cp (a0 := 0) (b0 := 0) (e := 0) 39 13 8 rfl rfl rfl (by decide +kernel) (Nat.le_of_ble_eq_true rfl) ?_
  refine hw_ald (b := 1) (e := 0) (by decide +kernel) rfl (by decide) ?_
  refine hr_gr (w := 40) (b := 3) (e := 8) 31 rfl (by decide +kernel) ?_
  refine hw_k (c := 0) (b := 0) (e := 1) (by decide +kernel) ?_
  refine hw_ald (b := 0) (e := 0) (by decide +kernel) rfl (by decide) ?_
  refine hr_gr (w := 14) (b := 3) (e := 8) 5 rfl (by decide +kernel) ?_
  refine hw_k (c := 0) (b := 0) (e := 1) (by decide +kernel) ?_
  refine hw_k (c := 8) (b := 1) (e := 2) (by decide +kernel) ?_
  refine hr_cp (a0 := 0) (b0 := 0) (e := 0) 40 14 8 rfl rfl rfl (by decide +kernel) (Nat.le_of_ble_eq_true rfl) ?_
  refine hw_ald (b := 1) (e := 0) (by decide +kernel) rfl (by decide) ?_
  refine hr_gr (w := 41) (b := 3) (e := 9) 31 rfl (by decide +kernel) ?_
  refine hw_k (c := 0) (b := 0) (e := 1) (by decide +kernel) ?_
  refine hw_ald (b := 0) (e := 0) (by decide +kernel) rfl (by decide) ?_
  refine hr_gr (w := 15) (b := 3) (e := 9) 5 rfl (by decide +kernel) ?_
  refine hw_k (c := 0) (b := 0) (e := 1) (by decide +kernel) ?_
  refine hw_k (c := 8) (b := 1) (e := 2) (by decide +kernel) ?_
  refine hr_cp (a0 := 0) (b0 := 0) (e := 0) 41 15 8 rfl rfl rfl (by decide +kernel) (Nat.le_of_ble_eq_true rfl) ?_
  refine hw_ald (b := 1) (e := 0) (by decide +kernel) rfl (by decide) ?_
  refine hr_gr (w := 42) (b := 3) (e := 10) 31 rfl (by decide +kernel) ?_
  refine hw_k (c := 0) (b := 0) (e := 1) (by decide +kernel) ?_
  refine hw_ald (b := 0) (e := 0) (by decide +kernel) rfl (by decide) ?_
  refine hr_gr (w := 16) (b := 3) (e := 10) 5 rfl (by decide +kernel) ?_
  refine hw_k (c := 0) (b := 0) (e := 1) (by decide +kernel) ?_
  refine hw_k (c := 64) (b := 1) (e := 2) (by decide +kernel) ?_
  refine hr_cp (a0 := 0) (b0 := 0) (e := 0) 42 16 64 rfl rfl rfl (by decide +kernel) (Nat.le_of_ble_eq_true rfl) ?_
  exact hw_vret (a0 := 0) (e := 0) (by decide +kernel) H
theorem sf_65_5_31 {sc : List Int} {d : Nat} {φ : hf_F} {x : Nat} {Q : Option jm_V → hf_F → Nat → Prop}  (hI : Inv φ)  (hQ : ∀ ψ : hf_F, Inv ψ → Fr [6, 7, 8, 9, 10, 11, 12, 13, 14, 15, 16] φ ψ → F_Plan_copyFrom_5_31 φ = ψ → Q none ψ x) : hw sc d 65 0 [(0, (2, 5)), (1, (2, 31))] [] φ x Q := by
  apply sf_65_5_31_v
  have e0 : F_Plan_copyFrom_5_31 φ = _ := rfl
  have i1 : Inv (hf_cp φ 32 6 5) := iv_cp hI (by decide) (by decide +kernel)
  have r1 : Fr [6, 7, 8, 9, 10, 11, 12, 13, 14, 15, 16] φ (hf_cp φ 32 6 5) := fr_cp (fr_rf) (by decide)
  have i2 : Inv (hf_cp (hf_cp φ 32 6 5) 33 7 40) := iv_cp i1 (by decide) (by decide +kernel)
  have r2 : Fr [6, 7, 8, 9, 10, 11, 12, 13, 14, 15, 16] φ (hf_cp (hf_cp φ 32 6 5) 33 7 40) := fr_cp r1 (by decide)
  have i3 : Inv (hf_cp (hf_cp (hf_cp φ 32 6 5) 33 7 40) 34 8 3) := iv_cp i2 (by decide) (by decide +kernel)
  have r3 : Fr [6, 7, 8, 9, 10, 11, 12, 13, 14, 15, 16] φ (hf_cp (hf_cp (hf_cp φ 32 6 5) 33 7 40) 34 8 3) := fr_cp r2 (by decide)
  have i4 : Inv (hf_cp (hf_cp (hf_cp (hf_cp φ 32 6 5) 33 7 40) 34 8 3) 35 9 3) := iv_cp i3 (by decide) (by decide +kernel)
  have r4 : Fr [6, 7, 8, 9, 10, 11, 12, 13, 14, 15, 16] φ (hf_cp (hf_cp (hf_cp (hf_cp φ 32 6 5) 33 7 40) 34 8 3) 35 9 3) := fr_cp r3 (by decide)
  have i5 : Inv (hf_cp (hf_cp (hf_cp (hf_cp (hf_cp φ 32 6 5) 33 7 40) 34 8 3) 35 9 3) 36 10 8) := iv_cp i4 (by decide) (by decide +kernel)
  have r5 : Fr [6, 7, 8, 9, 10, 11, 12, 13, 14, 15, 16] φ (hf_cp (hf_cp (hf_cp (hf_cp (hf_cp φ 32 6 5) 33 7 40) 34 8 3) 35 9 3) 36 10 8) := fr_cp r4 (by decide)
  have i6 : Inv (hf_cp (hf_cp (hf_cp (hf_cp (hf_cp (hf_cp φ 32 6 5) 33 7 40) 34 8 3) 35 9 3) 36 10 8) 37 11 8) := iv_cp i5 (by decide) (by decide +kernel)
  have r6 : Fr [6, 7, 8, 9, 10, 11, 12, 13, 14, 15, 16] φ (hf_cp (hf_cp (hf_cp (hf_cp (hf_cp (hf_cp φ 32 6 5) 33 7 40) 34 8 3) 35 9 3) 36 10 8) 37 11 8) := fr_cp r5 (by decide)
  have i7 : Inv (hf_cp (hf_cp (hf_cp (hf_cp (hf_cp (hf_cp (hf_cp φ 32 6 5) 33 7 40) 34 8 3) 35 9 3) 36 10 8) 37 11 8) 38 12 8) := iv_cp i6 (by decide) (by decide +kernel)
  have r7 : Fr [6, 7, 8, 9, 10, 11, 12, 13, 14, 15, 16] φ (hf_cp (hf_cp (hf_cp (hf_cp (hf_cp (hf_cp (hf_cp φ 32 6 5) 33 7 40) 34 8 3) 35 9 3) 36 10 8) 37 11 8) 38 12 8) := fr_cp r6 (by decide)
  have i8 : Inv (hf_cp (hf_cp (hf_cp (hf_cp (hf_cp (hf_cp (hf_cp (hf_cp φ 32 6 5) 33 7 40) 34 8 3) 35 9 3) 36 10 8) 37 11 8) 38 12 8) 39 13 8) := iv_cp i7 (by decide) (by decide +kernel)
  have r8 : Fr [6, 7, 8, 9, 10, 11, 12, 13, 14, 15, 16] φ (hf_cp (hf_cp (hf_cp (hf_cp (hf_cp (hf_cp (hf_cp (hf_cp φ 32 6 5) 33 7 40) 34 8 3) 35 9 3) 36 10 8) 37 11 8) 38 12 8) 39 13 8) := fr_cp r7 (by decide)
  have i9 : Inv (hf_cp (hf_cp (hf_cp (hf_cp (hf_cp (hf_cp (hf_cp (hf_cp (hf_cp φ 32 6 5) 33 7 40) 34 8 3) 35 9 3) 36 10 8) 37 11 8) 38 12 8) 39 13 8) 40 14 8) := iv_cp i8 (by decide) (by decide +kernel)
  have r9 : Fr [6, 7, 8, 9, 10, 11, 12, 13, 14, 15, 16] φ (hf_cp (hf_cp (hf_cp (hf_cp (hf_cp (hf_cp (hf_cp (hf_cp (hf_cp φ 32 6 5) 33 7 40) 34 8 3) 35 9 3) 36 10 8) 37 11 8) 38 12 8) 39 13 8) 40 14 8) := fr_cp r8 (by decide)
  have i10 : Inv (hf_cp (hf_cp (hf_cp (hf_cp (hf_cp (hf_cp (hf_cp (hf_cp (hf_cp (hf_cp φ 32 6 5) 33 7 40) 34 8 3) 35 9 3) 36 10 8) 37 11 8) 38 12 8) 39 13 8) 40 14 8) 41 15 8) := iv_cp i9 (by decide) (by decide +kernel)
  have r10 : Fr [6, 7, 8, 9, 10, 11, 12, 13, 14, 15, 16] φ (hf_cp (hf_cp (hf_cp (hf_cp (hf_cp (hf_cp (hf_cp (hf_cp (hf_cp (hf_cp φ 32 6 5) 33 7 40) 34 8 3) 35 9 3) 36 10 8) 37 11 8) 38 12 8) 39 13 8) 40 14 8) 41 15 8) := fr_cp r9 (by decide)
  have i11 : Inv (hf_cp (hf_cp (hf_cp (hf_cp (hf_cp (hf_cp (hf_cp (hf_cp (hf_cp (hf_cp (hf_cp φ 32 6 5) 33 7 40) 34 8 3) 35 9 3) 36 10 8) 37 11 8) 38 12 8) 39 13 8) 40 14 8) 41 15 8) 42 16 64) := iv_cp i10 (by decide) (by decide +kernel)
  have r11 : Fr [6, 7, 8, 9, 10, 11, 12, 13, 14, 15, 16] φ (hf_cp (hf_cp (hf_cp (hf_cp (hf_cp (hf_cp (hf_cp (hf_cp (hf_cp (hf_cp (hf_cp φ 32 6 5) 33 7 40) 34 8 3) 35 9 3) 36 10 8) 37 11 8) 38 12 8) 39 13 8) 40 14 8) 41 15 8) 42 16 64) := fr_cp r10 (by decide)
  exact hQ (hf_cp (hf_cp (hf_cp (hf_cp (hf_cp (hf_cp (hf_cp (hf_cp (hf_cp (hf_cp (hf_cp φ 32 6 5) 33 7 40) 34 8 3) 35 9 3) 36 10 8) 37 11 8) 38 12 8) 39 13 8) 40 14 8) 41 15 8) 42 16 64) i11 r11 e0
theorem sf_67_26_52_v {sc : List Int} {d : Nat} {φ : hf_F} {x : Nat} {Q : Option jm_V → hf_F → Nat → Prop} 
    (H : ((φ 52 5) = 0 ∨ (φ 52 5) = 1) ∧ (Q none (hf_up (hf_up (hf_up (hf_cp (hf_cp (hf_cp φ 53 27 40) 54 28 40) 55 29 40) 26 3 (φ 52 3)) 26 4 (φ 52 4)) 26 5 (φ 52 5)) x)) :
    hw sc d 67 0 [(0, (2, 26)), (1, (2, 52))] [] φ x Q := by
  refine hw_ald (b := 1) (e := 0) (by decide +kernel) rfl (by decide) ?_
  refine hr_gr (w := 53) (b := 5) (e := 0) 52 rfl (by decide +kernel) ?_
  refine hw_k (c := 0) (b := 0) (e := 1) (by decide +kernel) ?_
  refine hw_ald (b := 0) (e := 0) (by decide +kernel) rfl (by decide) ?_
  refine hr_gr (w := 27) (b := 5) (e := 0) 26 rfl (by decide +kernel) ?_
  refine hw_k (c := 0) (b := 0) (e := 1) (by decide +kernel) ?_
  refine hw_k (c := 40) (b := 1) (e := 2) (by decide +kernel) ?_
  refine hr_cp (a0 := 0) (b0 := 0) (e := 0) 53 27 40 rfl rfl rfl (by decide +kernel) (Nat.le_of_ble_eq_true rfl) ?_
  refine hw_ald (b := 1) (e := 0) (by decide +kernel) rfl (by decide) ?_
  refine hr_gr (w := 54) (b := 5) (e := 1) 52 rfl (by decide +kernel) ?_
  refine hw_k (c := 0) (b := 0) (e := 1) (by decide +kernel) ?_
  refine hw_ald (b := 0) (e := 0) (by decide +kernel) rfl (by decide) ?_
  refine hr_gr (w := 28) (b := 5) (e := 1) 26 rfl (by decide +kernel) ?_
  refine hw_k (c := 0) (b := 0) (e := 1) (by decide +kernel) ?_
  refine hw_k (c := 40) (b := 1) (e := 2) (by decide +kernel) ?_
  refine hr_cp (a0 := 0) (b0 := 0) (e := 0) 54 28 40 rfl rfl rfl (by decide +kernel) (Nat.le_of_ble_eq_true rfl) ?_
  refine hw_ald (b := 1) (e := 0) (by decide +kernel) rfl (by decide) ?_
  refine hr_gr (w := 55) (b := 5) (e := 2) 52 rfl (by decide +kernel) ?_
  refine hw_k (c := 0) (b := 0) (e := 1) (by decide +kernel) ?_
  refine hw_ald (b := 0) (e := 0) (by decide +kernel) rfl (by decide) ?_
  refine hr_gr (w := 29) (b := 5) (e := 2) 26 rfl (by decide +kernel) ?_
  refine hw_k (c := 0) (b := 0) (e := 1) (by decide +kernel) ?_
  refine hw_k (c := 40) (b := 1) (e := 2) (by decide +kernel) ?_
  refine hr_cp (a0 := 0) (b0 := 0) (e := 0) 55 29 40 rfl rfl rfl (by decide +kernel) (Nat.le_of_ble_eq_true rfl) ?_
  refine hw_ald (b := 0) (e := 0) (by decide +kernel) rfl (by decide) ?_
  refine hw_ald (b := 1) (e := 0) (by decide +kernel) rfl (by decide) ?_
  refine hr_gi (w := φ 52 3) (b := 5) (e := 3) 52 rfl (by decide +kernel) ((hf_cp_ne (fun q => absurd q.1 (by decide))).trans ((hf_cp_ne (fun q => absurd q.1 (by decide))).trans (hf_cp_ne (fun q => absurd q.1 (by decide))))) ?_
  refine hr_pi (b := 5) (e := 3) 26 rfl (by decide +kernel) ?_
  refine hw_ald (b := 0) (e := 0) (by decide +kernel) rfl (by decide) ?_
  refine hw_ald (b := 1) (e := 0) (by decide +kernel) rfl (by decide) ?_
  refine hr_gi (w := φ 52 4) (b := 5) (e := 4) 52 rfl (by decide +kernel) ((hf_up_ne (fun q => absurd q.1 (by decide))).trans ((hf_cp_ne (fun q => absurd q.1 (by decide))).trans ((hf_cp_ne (fun q => absurd q.1 (by decide))).trans (hf_cp_ne (fun q => absurd q.1 (by decide)))))) ?_
  refine hr_pi (b := 5) (e := 4) 26 rfl (by decide +kernel) ?_
  refine hw_ald (b := 0) (e := 0) (by decide +kernel) rfl (by decide) ?_
  refine hw_ald (b := 1) (e := 0) (by decide +kernel) rfl (by decide) ?_
  refine hr_gz (w := φ 52 5) (b := 5) (e := 5) 52 rfl (by decide +kernel) ((hf_up_ne (fun q => absurd q.1 (by decide))).trans ((hf_up_ne (fun q => absurd q.1 (by decide))).trans ((hf_cp_ne (fun q => absurd q.1 (by decide))).trans ((hf_cp_ne (fun q => absurd q.1 (by decide))).trans (hf_cp_ne (fun q => absurd q.1 (by decide))))))) ?_
  obtain ⟨h01_1, H⟩ := H
  refine hr_pz (b := 5) (e := 5) 26 rfl (by decide +kernel) h01_1 ?_
  exact hw_vret (a0 := 0) (e := 0) (by decide +kernel) H
theorem sf_67_26_52 {sc : List Int} {d : Nat} {φ : hf_F} {x : Nat} {Q : Option jm_V → hf_F → Nat → Prop}  (hI : Inv φ)  (hQ : ∀ ψ : hf_F, Inv ψ → Fr [27, 28, 29, 27003, 27004, 27005] φ ψ → F_Sentence_copyFrom_26_52 φ = ψ → Q none ψ x) : hw sc d 67 0 [(0, (2, 26)), (1, (2, 52))] [] φ x Q := by
  apply sf_67_26_52_v
  have e0 : F_Sentence_copyFrom_26_52 φ = _ := rfl
  have i1 : Inv (hf_cp φ 53 27 40) := iv_cp hI (by decide) (by decide +kernel)
  have r1 : Fr [27, 28, 29, 27003, 27004, 27005] φ (hf_cp φ 53 27 40) := fr_cp (fr_rf) (by decide)
  have i2 : Inv (hf_cp (hf_cp φ 53 27 40) 54 28 40) := iv_cp i1 (by decide) (by decide +kernel)
  have r2 : Fr [27, 28, 29, 27003, 27004, 27005] φ (hf_cp (hf_cp φ 53 27 40) 54 28 40) := fr_cp r1 (by decide)
  have i3 : Inv (hf_cp (hf_cp (hf_cp φ 53 27 40) 54 28 40) 55 29 40) := iv_cp i2 (by decide) (by decide +kernel)
  have r3 : Fr [27, 28, 29, 27003, 27004, 27005] φ (hf_cp (hf_cp (hf_cp φ 53 27 40) 54 28 40) 55 29 40) := fr_cp r2 (by decide)
  have f4 := iv_at (a := 52) (k := 3) (lo := 0) (u := 40) hI (by decide +kernel)
  have i5 : Inv (hf_up (hf_cp (hf_cp (hf_cp φ 53 27 40) 54 28 40) 55 29 40) 26 3 (φ 52 3)) := iv_up (lo := 0) (u := 40) i3 (by decide +kernel) (by omega) (by omega)
  have r5 : Fr [27, 28, 29, 27003, 27004, 27005] φ (hf_up (hf_cp (hf_cp (hf_cp φ 53 27 40) 54 28 40) 55 29 40) 26 3 (φ 52 3)) := fr_up r3 (by decide)
  have f6 := iv_at (a := 52) (k := 4) (lo := 0) (u := 20) hI (by decide +kernel)
  have i7 : Inv (hf_up (hf_up (hf_cp (hf_cp (hf_cp φ 53 27 40) 54 28 40) 55 29 40) 26 3 (φ 52 3)) 26 4 (φ 52 4)) := iv_up (lo := 0) (u := 20) i5 (by decide +kernel) (by omega) (by omega)
  have r7 : Fr [27, 28, 29, 27003, 27004, 27005] φ (hf_up (hf_up (hf_cp (hf_cp (hf_cp φ 53 27 40) 54 28 40) 55 29 40) 26 3 (φ 52 3)) 26 4 (φ 52 4)) := fr_up r5 (by decide)
  have f8 := iv_at (a := 52) (k := 5) (lo := 0) (u := 1) hI (by decide +kernel)
  refine ⟨by omega, ?_⟩
  have i9 : Inv (hf_up (hf_up (hf_up (hf_cp (hf_cp (hf_cp φ 53 27 40) 54 28 40) 55 29 40) 26 3 (φ 52 3)) 26 4 (φ 52 4)) 26 5 (φ 52 5)) := iv_up (lo := 0) (u := 1) i7 (by decide +kernel) (by omega) (by omega)
  have r9 : Fr [27, 28, 29, 27003, 27004, 27005] φ (hf_up (hf_up (hf_up (hf_cp (hf_cp (hf_cp φ 53 27 40) 54 28 40) 55 29 40) 26 3 (φ 52 3)) 26 4 (φ 52 4)) 26 5 (φ 52 5)) := fr_up r7 (by decide)
  exact hQ (hf_up (hf_up (hf_up (hf_cp (hf_cp (hf_cp φ 53 27 40) 54 28 40) 55 29 40) 26 3 (φ 52 3)) 26 4 (φ 52 4)) 26 5 (φ 52 5)) i9 r9 e0
theorem sf_42_31_v3 {sc : List Int} {d : Nat} {φ : hf_F} {x : Nat} {Q : Option jm_V → hf_F → Nat → Prop} {L : jm_L} {l1 l2 l4 : Int} (g0 : jm_get L 0 = some (2, 31)) (g1 : jm_get L 1 = some (0, l1)) (g2 : jm_get L 2 = some (1, l2)) (g4 : jm_get L 4 = some (0, l4))
    (H : 0 ≤ l1 ∧ l1 < 5 ∧ (hi l4 ∧ hi (φ 32 ((l1).toNat)) ∧ ((φ 32 ((l1).toNat)) ≤ l4 → Q (some (0, (-1 : Int))) φ x) ∧ (¬ (φ 32 ((l1).toNat)) ≤ l4 → 0 ≤ ((l1 * 8) + l4) ∧ ((l1 * 8) + l4) < 40 ∧ (hi (jm_cmp (φ 33 (((l1 * 8) + l4).toNat)) l2) ∧ (¬ (jm_cmp (φ 33 (((l1 * 8) + l4).toNat)) l2) = 0 → hw sc d 42 3 (jm_st1 L 4 (0, l4 + 1)) [] φ x Q) ∧ (¬ (¬ (jm_cmp (φ 33 (((l1 * 8) + l4).toNat)) l2) = 0) → Q (some (0, l4)) φ x))))) :
    hw sc d 42 3 L [] φ x Q := by
  refine hw_ld (b := 4) (e := 1) (by decide +kernel) g4 ?_
  refine hw_ald (b := 0) (e := 0) (by decide +kernel) g0 (by decide) ?_
  refine hr_gr (w := 32) (b := 3) (e := 0) 31 rfl (by decide +kernel) ?_
  refine hw_ld (b := 1) (e := 0) (by decide +kernel) g1 ?_
  obtain ⟨hl1, hu1, H⟩ := H
  refine hr_al (b := 0) (a0 := 0) (e := 0) (n := 5) (w := φ 32 ((l1).toNat)) 32 rfl (by decide +kernel) (by decide) hl1 hu1 rfl ?_
  obtain ⟨hz2, hy2, ht2, hf2⟩ := H
  refine hw_if2 (a0 := 0) (b := 3) (e := 40) (by decide +kernel) hz2 hy2 (fun q => ?_) (fun q => ?_)
  · have H := ht2 q
    refine hw_k (c := (-1 : Int)) (b := 0) (e := 1) (by decide +kernel) ?_
    exact hw_ret (a0 := 0) (e := 0) (by decide +kernel) (Or.inl rfl) H
  · have H := hf2 q
    refine hw_ald (b := 0) (e := 0) (by decide +kernel) g0 (by decide) ?_
    refine hr_gr (w := 33) (b := 3) (e := 1) 31 rfl (by decide +kernel) ?_
    refine hw_ld (b := 1) (e := 0) (by decide +kernel) g1 ?_
    refine hw_k (c := 8) (b := 1) (e := 2) (by decide +kernel) ?_
    refine hw_bin (w := l1 * 8) (a0 := 0) (b := 2) (e := 0) (by decide +kernel) rfl ?_
    refine hw_ld (b := 4) (e := 1) (by decide +kernel) g4 ?_
    refine hw_bin (w := (l1 * 8) + l4) (a0 := 0) (b := 0) (e := 0) (by decide +kernel) rfl ?_
    obtain ⟨hl4, hu4, H⟩ := H
    refine hr_all (a0 := 0) (e := 0) (n := 40) (w := φ 33 (((l1 * 8) + l4).toNat)) 33 rfl (by decide +kernel) hl4 hu4 rfl ?_
    refine hw_lld (b := 2) (e := 0) (by decide +kernel) g2 ?_
    refine hw_lcmp (w := jm_cmp (φ 33 (((l1 * 8) + l4).toNat)) l2) (a0 := 0) (b := 0) (e := 0) (by decide +kernel) rfl ?_
    obtain ⟨hz5, ht5, hf5⟩ := H
    refine hw_if (a0 := 0) (b := 1) (e := 34) (by decide +kernel) hz5 (fun q => ?_) (fun q => ?_)
    · have H := ht5 q
      refine hw_inc (L' := (jm_st1 L 4 (0, l4 + 1))) (c := 1) (b := 4) (e := 0) (by decide +kernel) g4 rfl ?_
      refine hw_goto (a0 := 0) (b := 0) (e := 3) (by decide +kernel) ?_
      exact H
    · have H := hf5 q
      refine hw_ld (b := 4) (e := 1) (by decide +kernel) g4 ?_
      exact hw_ret (a0 := 0) (e := 0) (by decide +kernel) (Or.inl rfl) H
theorem sf_42_31_l3 {sc : List Int} {d x : Nat} {Q : Option jm_V → hf_F → Nat → Prop} : ∀ (n : Nat) (φ : hf_F) (L : jm_L) (l1 l2 l4 : Int), jm_get L 0 = some (2, 31) → jm_get L 1 = some (0, l1) → jm_get L 2 = some (1, l2) → jm_get L 4 = some (0, l4) → Inv φ → 8 - l4 < (n : Int) → 0 ≤ l1 → l1 ≤ 4 → 0 ≤ l4 → l4 ≤ 8 → (∀ (r : Int), (-1 : Int) ≤ r ∧ r ≤ 7 → F_Plan_numberOf_31_l3 n φ l1 l2 l4 = r → Q (some (0, r)) φ x) → hw sc d 42 3 L [] φ x Q := by
  intro n
  induction n with
  | zero =>
    intro φ L l1 l2 l4 g0 g1 g2 g4 hI hM b1a b1b b4a b4b hQ
    exfalso
    omega
  | succ n ih =>
    intro φ L l1 l2 l4 g0 g1 g2 g4 hI hM b1a b1b b4a b4b hQ
    refine sf_42_31_v3 g0 g1 g2 g4 ?_
    have e0 := F_Plan_numberOf_31_l3_s (φ := φ) (l1 := l1) (l2 := l2) (l4 := l4) n
    refine ⟨by omega, by omega, ?_⟩
    have f1 := iv_arh (a := 32) (s := 0) (t := 5) (lo := 0) (u := 8) (z := l1) hI (by decide +kernel) (by omega) (by omega)
    refine ⟨by unfold hi; omega, by unfold hi; omega, fun q2 => ?_, fun q2 => ?_⟩
    · skip
      have e2a := e0.trans (if_pos q2)
      exact hQ (-1 : Int) ⟨by omega, by omega⟩ e2a
    · skip
      have e2b := e0.trans (if_neg q2)
      refine ⟨by omega, by omega, ?_⟩
      have f2 := hr_cmp (φ 33 (((l1 * 8) + l4).toNat)) l2
      refine ⟨by unfold hi; omega, fun q5 => ?_, fun q5 => ?_⟩
      · skip
        have e5a := e2b.trans (if_pos q5)
        exact ih φ (jm_st1 L 4 (0, l4 + 1)) l1 l2 (l4 + 1) (get_st1 g0 (by decide) (fun q => absurd q.1 (by decide))) (get_st1 g1 (by decide) (fun q => absurd q.1 (by decide))) (get_st1 g2 (by decide) (fun q => absurd q.1 (by decide))) get_st1e hI (by omega) (by omega) (by omega) (by omega) (by omega) (fun rr hpχ hEχ => hQ rr hpχ (e5a.trans hEχ))
      · skip
        have e5b := e2b.trans (if_neg q5)
        exact hQ l4 ⟨by omega, by omega⟩ e5b
theorem sf_42_31_v {sc : List Int} {d : Nat} {φ : hf_F} {x : Nat} {Q : Option jm_V → hf_F → Nat → Prop} {v1 v2 : Int}
    (H : hw sc d 42 3 (jm_st1 [(0, (2, 31)), (1, (0, v1)), (2, (1, v2))] 4 (0, 0)) [] φ x Q) :
    hw sc d 42 0 [(0, (2, 31)), (1, (0, v1)), (2, (1, v2))] [] φ x Q := by
  refine hw_k (c := 0) (b := 0) (e := 1) (by decide +kernel) ?_
  refine hw_st (L' := (jm_st1 [(0, (2, 31)), (1, (0, v1)), (2, (1, v2))] 4 (0, 0))) (b := 4) (e := 1) (by decide +kernel) rfl ?_
  exact H
theorem sf_42_31 {sc : List Int} {d : Nat} {φ : hf_F} {x : Nat} {Q : Option jm_V → hf_F → Nat → Prop} {v1 v2 : Int} (hI : Inv φ) (h1a : 0 ≤ v1) (h1b : v1 ≤ 4) (hQ : ∀ (r : Int), (-1 : Int) ≤ r ∧ r ≤ 7 → F_Plan_numberOf_31 φ v1 v2 = r → Q (some (0, r)) φ x) : hw sc d 42 0 [(0, (2, 31)), (1, (0, v1)), (2, (1, v2))] [] φ x Q := by
  apply sf_42_31_v
  have e0 : F_Plan_numberOf_31 φ v1 v2 = _ := rfl
  exact sf_42_31_l3 ((8 - 0 : Int).toNat + 1) φ (jm_st1 [(0, (2, 31)), (1, (0, v1)), (2, (1, v2))] 4 (0, 0)) v1 v2 0 (get_st1 rfl (by decide) (fun q => absurd q.1 (by decide))) (get_st1 rfl (by decide) (fun q => absurd q.1 (by decide))) (get_st1 rfl (by decide) (fun q => absurd q.1 (by decide))) get_st1e hI (by omega) (by omega) (by omega) (by omega) (by omega) (fun rr hpχ hEχ => hQ rr hpχ (e0.trans hEχ))
theorem sf_12_45_k1_m1_v5 {sc : List Int} {d : Nat} {φ : hf_F} {x : Nat} {Q : Option jm_V → hf_F → Nat → Prop} {L : jm_L} {l2 : Int} (g0 : jm_get L 0 = some (2, 45)) (g1 : jm_get L 1 = some (0, (-1 : Int))) (g2 : jm_get L 2 = some (0, l2)) (g3 : jm_get L 3 = some (0, 8))
    (H : hi l2 ∧ hi 8 ∧ (8 ≤ l2 → Q none φ x) ∧ (¬ 8 ≤ l2 → 0 ≤ l2 ∧ l2 < 8 ∧ (hw sc d 12 5 (jm_st1 L 2 (0, l2 + 1)) [] (hf_up φ 45 ((l2).toNat) (-1 : Int)) x Q))) :
    hw sc d 12 5 L [] φ x Q := by
  refine hw_ld (b := 2) (e := 0) (by decide +kernel) g2 ?_
  refine hw_ld (b := 3) (e := 0) (by decide +kernel) g3 ?_
  obtain ⟨hz1, hy1, ht1, hf1⟩ := H
  refine hw_if2 (a0 := 0) (b := 3) (e := 20) (by decide +kernel) hz1 hy1 (fun q => ?_) (fun q => ?_)
  · have H := ht1 q
    exact hw_vret (a0 := 0) (e := 0) (by decide +kernel) H
  · have H := hf1 q
    refine hw_ald (b := 0) (e := 0) (by decide +kernel) g0 (by decide) ?_
    refine hw_ld (b := 2) (e := 0) (by decide +kernel) g2 ?_
    refine hw_ld (b := 1) (e := 0) (by decide +kernel) g1 ?_
    obtain ⟨hl3, hu3, H⟩ := H
    refine hr_as (a0 := 0) (e := 4) (n := 8) 45 rfl (by decide +kernel) hl3 hu3 ?_
    refine hw_inc (L' := (jm_st1 L 2 (0, l2 + 1))) (c := 1) (b := 2) (e := 0) (by decide +kernel) g2 rfl ?_
    refine hw_goto (a0 := 0) (b := 0) (e := 5) (by decide +kernel) ?_
    exact H
theorem sf_12_45_k1_m1_l5 {sc : List Int} {d x : Nat} {Q : Option jm_V → hf_F → Nat → Prop} : ∀ (n : Nat) (φ : hf_F) (L : jm_L) (l2 : Int), jm_get L 0 = some (2, 45) → jm_get L 1 = some (0, (-1 : Int)) → jm_get L 2 = some (0, l2) → jm_get L 3 = some (0, 8) → Inv φ → 8 - l2 < (n : Int) → 0 ≤ l2 → l2 ≤ 8 → (∀ ψ : hf_F, Inv ψ → Fr [45] φ ψ → F_java_util_Arrays_fill_45_k1_m1_l5 n φ l2 = ψ → Q none ψ x) → hw sc d 12 5 L [] φ x Q := by
  intro n
  induction n with
  | zero =>
    intro φ L l2 g0 g1 g2 g3 hI hM b2a b2b hQ
    exfalso
    omega
  | succ n ih =>
    intro φ L l2 g0 g1 g2 g3 hI hM b2a b2b hQ
    refine sf_12_45_k1_m1_v5 g0 g1 g2 g3 ?_
    have e0 := F_java_util_Arrays_fill_45_k1_m1_l5_s (φ := φ) (l2 := l2) n
    refine ⟨by unfold hi; omega, by unfold hi; omega, fun q1 => ?_, fun q1 => ?_⟩
    · skip
      have e1a := e0.trans (if_pos q1)
      exact hQ φ hI (fr_rf) e1a
    · skip
      have e1b := e0.trans (if_neg q1)
      refine ⟨by omega, by omega, ?_⟩
      have i1 : Inv (hf_up φ 45 ((l2).toNat) (-1 : Int)) := iv_upI (s := 0) (t := 8) (lo := (-1 : Int)) (u := 5) (z := l2) hI (by decide +kernel) (by omega) (by omega) (by omega) (by omega)
      have r1 : Fr [45] φ (hf_up φ 45 ((l2).toNat) (-1 : Int)) := fr_upa (fr_rf) (by decide)
      exact ih (hf_up φ 45 ((l2).toNat) (-1 : Int)) (jm_st1 L 2 (0, l2 + 1)) (l2 + 1) (get_st1 g0 (by decide) (fun q => absurd q.1 (by decide))) (get_st1 g1 (by decide) (fun q => tg0 q.2)) get_st1e (get_st1 g3 (by decide) (fun q => absurd q.1 (by decide))) i1 (by omega) (by omega) (by omega) (fun χ hIχ hFχ hEχ => hQ χ hIχ (fr_tr r1 hFχ (by decide)) (e1b.trans hEχ))
theorem sf_12_45_k1_m1_v {sc : List Int} {d : Nat} {φ : hf_F} {x : Nat} {Q : Option jm_V → hf_F → Nat → Prop} 
    (H : hw sc d 12 5 (jm_st1 (jm_st1 [(0, (2, 45)), (1, (0, (-1 : Int)))] 2 (0, 0)) 3 (0, 8)) [] φ x Q) :
    hw sc d 12 0 [(0, (2, 45)), (1, (0, (-1 : Int)))] [] φ x Q := by
  refine hw_k (c := 0) (b := 0) (e := 1) (by decide +kernel) ?_
  refine hw_st (L' := (jm_st1 [(0, (2, 45)), (1, (0, (-1 : Int)))] 2 (0, 0))) (b := 2) (e := 0) (by decide +kernel) rfl ?_
  refine hw_ald (b := 0) (e := 0) (by decide +kernel) (get_st1 rfl (by decide) (fun q => absurd q.1 (by decide))) (by decide) ?_
  refine hr_len (n := 8) (a0 := 0) (b := 0) (e := 0) 45 rfl (by decide +kernel) ?_
  refine hw_st (L' := (jm_st1 (jm_st1 [(0, (2, 45)), (1, (0, (-1 : Int)))] 2 (0, 0)) 3 (0, 8))) (b := 3) (e := 0) (by decide +kernel) rfl ?_
  exact H
theorem sf_12_45_k1_m1 {sc : List Int} {d : Nat} {φ : hf_F} {x : Nat} {Q : Option jm_V → hf_F → Nat → Prop}  (hI : Inv φ)  (hQ : ∀ ψ : hf_F, Inv ψ → Fr [45] φ ψ → F_java_util_Arrays_fill_45_k1_m1 φ = ψ → Q none ψ x) : hw sc d 12 0 [(0, (2, 45)), (1, (0, (-1 : Int)))] [] φ x Q := by
  apply sf_12_45_k1_m1_v
  have e0 : F_java_util_Arrays_fill_45_k1_m1 φ = _ := rfl
  exact sf_12_45_k1_m1_l5 ((8 - 0 : Int).toNat + 1) φ (jm_st1 (jm_st1 [(0, (2, 45)), (1, (0, (-1 : Int)))] 2 (0, 0)) 3 (0, 8)) 0 (get_st1 (get_st1 rfl (by decide) (fun q => absurd q.1 (by decide))) (by decide) (fun q => absurd q.1 (by decide))) (get_st1 (get_st1 rfl (by decide) (fun q => tg0 q.2)) (by decide) (fun q => absurd q.1 (by decide))) (get_st1 get_st1e (by decide) (fun q => tg0 q.2)) get_st1e hI (by omega) (by omega) (by omega) (fun χ hIχ hFχ hEχ => hQ χ hIχ (fr_tr (fr_rf) hFχ (by decide)) (e0.trans hEχ))
theorem sf_12_46_k1_m1_v5 {sc : List Int} {d : Nat} {φ : hf_F} {x : Nat} {Q : Option jm_V → hf_F → Nat → Prop} {L : jm_L} {l2 : Int} (g0 : jm_get L 0 = some (2, 46)) (g1 : jm_get L 1 = some (0, (-1 : Int))) (g2 : jm_get L 2 = some (0, l2)) (g3 : jm_get L 3 = some (0, 6))
    (H : hi l2 ∧ hi 6 ∧ (6 ≤ l2 → Q none φ x) ∧ (¬ 6 ≤ l2 → 0 ≤ l2 ∧ l2 < 6 ∧ (hw sc d 12 5 (jm_st1 L 2 (0, l2 + 1)) [] (hf_up φ 46 ((l2).toNat) (-1 : Int)) x Q))) :
    hw sc d 12 5 L [] φ x Q := by
  refine hw_ld (b := 2) (e := 0) (by decide +kernel) g2 ?_
  refine hw_ld (b := 3) (e := 0) (by decide +kernel) g3 ?_
  obtain ⟨hz1, hy1, ht1, hf1⟩ := H
  refine hw_if2 (a0 := 0) (b := 3) (e := 20) (by decide +kernel) hz1 hy1 (fun q => ?_) (fun q => ?_)
  · have H := ht1 q
    exact hw_vret (a0 := 0) (e := 0) (by decide +kernel) H
  · have H := hf1 q
    refine hw_ald (b := 0) (e := 0) (by decide +kernel) g0 (by decide) ?_
    refine hw_ld (b := 2) (e := 0) (by decide +kernel) g2 ?_
    refine hw_ld (b := 1) (e := 0) (by decide +kernel) g1 ?_
    obtain ⟨hl3, hu3, H⟩ := H
    refine hr_as (a0 := 0) (e := 4) (n := 6) 46 rfl (by decide +kernel) hl3 hu3 ?_
    refine hw_inc (L' := (jm_st1 L 2 (0, l2 + 1))) (c := 1) (b := 2) (e := 0) (by decide +kernel) g2 rfl ?_
    refine hw_goto (a0 := 0) (b := 0) (e := 5) (by decide +kernel) ?_
    exact H
theorem sf_12_46_k1_m1_l5 {sc : List Int} {d x : Nat} {Q : Option jm_V → hf_F → Nat → Prop} : ∀ (n : Nat) (φ : hf_F) (L : jm_L) (l2 : Int), jm_get L 0 = some (2, 46) → jm_get L 1 = some (0, (-1 : Int)) → jm_get L 2 = some (0, l2) → jm_get L 3 = some (0, 6) → Inv φ → 6 - l2 < (n : Int) → 0 ≤ l2 → l2 ≤ 6 → (∀ ψ : hf_F, Inv ψ → Fr [46] φ ψ → F_java_util_Arrays_fill_46_k1_m1_l5 n φ l2 = ψ → Q none ψ x) → hw sc d 12 5 L [] φ x Q := by
  intro n
  induction n with
  | zero =>
    intro φ L l2 g0 g1 g2 g3 hI hM b2a b2b hQ
    exfalso
    omega
  | succ n ih =>
    intro φ L l2 g0 g1 g2 g3 hI hM b2a b2b hQ
    refine sf_12_46_k1_m1_v5 g0 g1 g2 g3 ?_
    have e0 := F_java_util_Arrays_fill_46_k1_m1_l5_s (φ := φ) (l2 := l2) n
    refine ⟨by unfold hi; omega, by unfold hi; omega, fun q1 => ?_, fun q1 => ?_⟩
    · skip
      have e1a := e0.trans (if_pos q1)
      exact hQ φ hI (fr_rf) e1a
    · skip
      have e1b := e0.trans (if_neg q1)
      refine ⟨by omega, by omega, ?_⟩
      have i1 : Inv (hf_up φ 46 ((l2).toNat) (-1 : Int)) := iv_upI (s := 0) (t := 6) (lo := (-1 : Int)) (u := 7) (z := l2) hI (by decide +kernel) (by omega) (by omega) (by omega) (by omega)
      have r1 : Fr [46] φ (hf_up φ 46 ((l2).toNat) (-1 : Int)) := fr_upa (fr_rf) (by decide)
      exact ih (hf_up φ 46 ((l2).toNat) (-1 : Int)) (jm_st1 L 2 (0, l2 + 1)) (l2 + 1) (get_st1 g0 (by decide) (fun q => absurd q.1 (by decide))) (get_st1 g1 (by decide) (fun q => tg0 q.2)) get_st1e (get_st1 g3 (by decide) (fun q => absurd q.1 (by decide))) i1 (by omega) (by omega) (by omega) (fun χ hIχ hFχ hEχ => hQ χ hIχ (fr_tr r1 hFχ (by decide)) (e1b.trans hEχ))
theorem sf_12_46_k1_m1_v {sc : List Int} {d : Nat} {φ : hf_F} {x : Nat} {Q : Option jm_V → hf_F → Nat → Prop} 
    (H : hw sc d 12 5 (jm_st1 (jm_st1 [(0, (2, 46)), (1, (0, (-1 : Int)))] 2 (0, 0)) 3 (0, 6)) [] φ x Q) :
    hw sc d 12 0 [(0, (2, 46)), (1, (0, (-1 : Int)))] [] φ x Q := by
  refine hw_k (c := 0) (b := 0) (e := 1) (by decide +kernel) ?_
  refine hw_st (L' := (jm_st1 [(0, (2, 46)), (1, (0, (-1 : Int)))] 2 (0, 0))) (b := 2) (e := 0) (by decide +kernel) rfl ?_
  refine hw_ald (b := 0) (e := 0) (by decide +kernel) (get_st1 rfl (by decide) (fun q => absurd q.1 (by decide))) (by decide) ?_
  refine hr_len (n := 6) (a0 := 0) (b := 0) (e := 0) 46 rfl (by decide +kernel) ?_
  refine hw_st (L' := (jm_st1 (jm_st1 [(0, (2, 46)), (1, (0, (-1 : Int)))] 2 (0, 0)) 3 (0, 6))) (b := 3) (e := 0) (by decide +kernel) rfl ?_
  exact H
theorem sf_12_46_k1_m1 {sc : List Int} {d : Nat} {φ : hf_F} {x : Nat} {Q : Option jm_V → hf_F → Nat → Prop}  (hI : Inv φ)  (hQ : ∀ ψ : hf_F, Inv ψ → Fr [46] φ ψ → F_java_util_Arrays_fill_46_k1_m1 φ = ψ → Q none ψ x) : hw sc d 12 0 [(0, (2, 46)), (1, (0, (-1 : Int)))] [] φ x Q := by
  apply sf_12_46_k1_m1_v
  have e0 : F_java_util_Arrays_fill_46_k1_m1 φ = _ := rfl
  exact sf_12_46_k1_m1_l5 ((6 - 0 : Int).toNat + 1) φ (jm_st1 (jm_st1 [(0, (2, 46)), (1, (0, (-1 : Int)))] 2 (0, 0)) 3 (0, 6)) 0 (get_st1 (get_st1 rfl (by decide) (fun q => absurd q.1 (by decide))) (by decide) (fun q => absurd q.1 (by decide))) (get_st1 (get_st1 rfl (by decide) (fun q => tg0 q.2)) (by decide) (fun q => absurd q.1 (by decide))) (get_st1 get_st1e (by decide) (fun q => tg0 q.2)) get_st1e hI (by omega) (by omega) (by omega) (fun χ hIχ hFχ hEχ => hQ χ hIχ (fr_tr (fr_rf) hFχ (by decide)) (e0.trans hEχ))
theorem sf_12_47_k1_0_v5 {sc : List Int} {d : Nat} {φ : hf_F} {x : Nat} {Q : Option jm_V → hf_F → Nat → Prop} {L : jm_L} {l2 : Int} (g0 : jm_get L 0 = some (2, 47)) (g1 : jm_get L 1 = some (0, 0)) (g2 : jm_get L 2 = some (0, l2)) (g3 : jm_get L 3 = some (0, 6))
    (H : hi l2 ∧ hi 6 ∧ (6 ≤ l2 → Q none φ x) ∧ (¬ 6 ≤ l2 → 0 ≤ l2 ∧ l2 < 6 ∧ (hw sc d 12 5 (jm_st1 L 2 (0, l2 + 1)) [] (hf_up φ 47 ((l2).toNat) 0) x Q))) :
    hw sc d 12 5 L [] φ x Q := by
  refine hw_ld (b := 2) (e := 0) (by decide +kernel) g2 ?_
  refine hw_ld (b := 3) (e := 0) (by decide +kernel) g3 ?_
  obtain ⟨hz1, hy1, ht1, hf1⟩ := H
  refine hw_if2 (a0 := 0) (b := 3) (e := 20) (by decide +kernel) hz1 hy1 (fun q => ?_) (fun q => ?_)
  · have H := ht1 q
    exact hw_vret (a0 := 0) (e := 0) (by decide +kernel) H
  · have H := hf1 q
    refine hw_ald (b := 0) (e := 0) (by decide +kernel) g0 (by decide) ?_
    refine hw_ld (b := 2) (e := 0) (by decide +kernel) g2 ?_
    refine hw_ld (b := 1) (e := 0) (by decide +kernel) g1 ?_
    obtain ⟨hl3, hu3, H⟩ := H
    refine hr_as (a0 := 0) (e := 4) (n := 6) 47 rfl (by decide +kernel) hl3 hu3 ?_
    refine hw_inc (L' := (jm_st1 L 2 (0, l2 + 1))) (c := 1) (b := 2) (e := 0) (by decide +kernel) g2 rfl ?_
    refine hw_goto (a0 := 0) (b := 0) (e := 5) (by decide +kernel) ?_
    exact H
theorem sf_12_47_k1_0_l5 {sc : List Int} {d x : Nat} {Q : Option jm_V → hf_F → Nat → Prop} : ∀ (n : Nat) (φ : hf_F) (L : jm_L) (l2 : Int), jm_get L 0 = some (2, 47) → jm_get L 1 = some (0, 0) → jm_get L 2 = some (0, l2) → jm_get L 3 = some (0, 6) → Inv φ → 6 - l2 < (n : Int) → 0 ≤ l2 → l2 ≤ 6 → (∀ ψ : hf_F, Inv ψ → Fr [47] φ ψ → F_java_util_Arrays_fill_47_k1_0_l5 n φ l2 = ψ → Q none ψ x) → hw sc d 12 5 L [] φ x Q := by
  intro n
  induction n with
  | zero =>
    intro φ L l2 g0 g1 g2 g3 hI hM b2a b2b hQ
    exfalso
    omega
  | succ n ih =>
    intro φ L l2 g0 g1 g2 g3 hI hM b2a b2b hQ
    refine sf_12_47_k1_0_v5 g0 g1 g2 g3 ?_
    have e0 := F_java_util_Arrays_fill_47_k1_0_l5_s (φ := φ) (l2 := l2) n
    refine ⟨by unfold hi; omega, by unfold hi; omega, fun q1 => ?_, fun q1 => ?_⟩
    · skip
      have e1a := e0.trans (if_pos q1)
      exact hQ φ hI (fr_rf) e1a
    · skip
      have e1b := e0.trans (if_neg q1)
      refine ⟨by omega, by omega, ?_⟩
      have i1 : Inv (hf_up φ 47 ((l2).toNat) 0) := iv_upI (s := 0) (t := 6) (lo := 0) (u := 6) (z := l2) hI (by decide +kernel) (by omega) (by omega) (by omega) (by omega)
      have r1 : Fr [47] φ (hf_up φ 47 ((l2).toNat) 0) := fr_upa (fr_rf) (by decide)
      exact ih (hf_up φ 47 ((l2).toNat) 0) (jm_st1 L 2 (0, l2 + 1)) (l2 + 1) (get_st1 g0 (by decide) (fun q => absurd q.1 (by decide))) (get_st1 g1 (by decide) (fun q => tg0 q.2)) get_st1e (get_st1 g3 (by decide) (fun q => absurd q.1 (by decide))) i1 (by omega) (by omega) (by omega) (fun χ hIχ hFχ hEχ => hQ χ hIχ (fr_tr r1 hFχ (by decide)) (e1b.trans hEχ))
theorem sf_12_47_k1_0_v {sc : List Int} {d : Nat} {φ : hf_F} {x : Nat} {Q : Option jm_V → hf_F → Nat → Prop} 
    (H : hw sc d 12 5 (jm_st1 (jm_st1 [(0, (2, 47)), (1, (0, 0))] 2 (0, 0)) 3 (0, 6)) [] φ x Q) :
    hw sc d 12 0 [(0, (2, 47)), (1, (0, 0))] [] φ x Q := by
  refine hw_k (c := 0) (b := 0) (e := 1) (by decide +kernel) ?_
  refine hw_st (L' := (jm_st1 [(0, (2, 47)), (1, (0, 0))] 2 (0, 0))) (b := 2) (e := 0) (by decide +kernel) rfl ?_
  refine hw_ald (b := 0) (e := 0) (by decide +kernel) (get_st1 rfl (by decide) (fun q => absurd q.1 (by decide))) (by decide) ?_
  refine hr_len (n := 6) (a0 := 0) (b := 0) (e := 0) 47 rfl (by decide +kernel) ?_
  refine hw_st (L' := (jm_st1 (jm_st1 [(0, (2, 47)), (1, (0, 0))] 2 (0, 0)) 3 (0, 6))) (b := 3) (e := 0) (by decide +kernel) rfl ?_
  exact H
theorem sf_12_47_k1_0 {sc : List Int} {d : Nat} {φ : hf_F} {x : Nat} {Q : Option jm_V → hf_F → Nat → Prop}  (hI : Inv φ)  (hQ : ∀ ψ : hf_F, Inv ψ → Fr [47] φ ψ → F_java_util_Arrays_fill_47_k1_0 φ = ψ → Q none ψ x) : hw sc d 12 0 [(0, (2, 47)), (1, (0, 0))] [] φ x Q := by
  apply sf_12_47_k1_0_v
  have e0 : F_java_util_Arrays_fill_47_k1_0 φ = _ := rfl
  exact sf_12_47_k1_0_l5 ((6 - 0 : Int).toNat + 1) φ (jm_st1 (jm_st1 [(0, (2, 47)), (1, (0, 0))] 2 (0, 0)) 3 (0, 6)) 0 (get_st1 (get_st1 rfl (by decide) (fun q => absurd q.1 (by decide))) (by decide) (fun q => absurd q.1 (by decide))) (get_st1 (get_st1 rfl (by decide) (fun q => tg0 q.2)) (by decide) (fun q => absurd q.1 (by decide))) (get_st1 get_st1e (by decide) (fun q => tg0 q.2)) get_st1e hI (by omega) (by omega) (by omega) (fun χ hIχ hFχ hEχ => hQ χ hIχ (fr_tr (fr_rf) hFχ (by decide)) (e0.trans hEχ))
theorem sf_12_49_k1_0_v5 {sc : List Int} {d : Nat} {φ : hf_F} {x : Nat} {Q : Option jm_V → hf_F → Nat → Prop} {L : jm_L} {l2 : Int} (g0 : jm_get L 0 = some (2, 49)) (g1 : jm_get L 1 = some (0, 0)) (g2 : jm_get L 2 = some (0, l2)) (g3 : jm_get L 3 = some (0, 6))
    (H : hi l2 ∧ hi 6 ∧ (6 ≤ l2 → Q none φ x) ∧ (¬ 6 ≤ l2 → 0 ≤ l2 ∧ l2 < 6 ∧ (hw sc d 12 5 (jm_st1 L 2 (0, l2 + 1)) [] (hf_up φ 49 ((l2).toNat) 0) x Q))) :
    hw sc d 12 5 L [] φ x Q := by
  refine hw_ld (b := 2) (e := 0) (by decide +kernel) g2 ?_
  refine hw_ld (b := 3) (e := 0) (by decide +kernel) g3 ?_
  obtain ⟨hz1, hy1, ht1, hf1⟩ := H
  refine hw_if2 (a0 := 0) (b := 3) (e := 20) (by decide +kernel) hz1 hy1 (fun q => ?_) (fun q => ?_)
  · have H := ht1 q
    exact hw_vret (a0 := 0) (e := 0) (by decide +kernel) H
  · have H := hf1 q
    refine hw_ald (b := 0) (e := 0) (by decide +kernel) g0 (by decide) ?_
    refine hw_ld (b := 2) (e := 0) (by decide +kernel) g2 ?_
    refine hw_ld (b := 1) (e := 0) (by decide +kernel) g1 ?_
    obtain ⟨hl3, hu3, H⟩ := H
    refine hr_as (a0 := 0) (e := 4) (n := 6) 49 rfl (by decide +kernel) hl3 hu3 ?_
    refine hw_inc (L' := (jm_st1 L 2 (0, l2 + 1))) (c := 1) (b := 2) (e := 0) (by decide +kernel) g2 rfl ?_
    refine hw_goto (a0 := 0) (b := 0) (e := 5) (by decide +kernel) ?_
    exact H
theorem sf_12_49_k1_0_l5 {sc : List Int} {d x : Nat} {Q : Option jm_V → hf_F → Nat → Prop} : ∀ (n : Nat) (φ : hf_F) (L : jm_L) (l2 : Int), jm_get L 0 = some (2, 49) → jm_get L 1 = some (0, 0) → jm_get L 2 = some (0, l2) → jm_get L 3 = some (0, 6) → Inv φ → 6 - l2 < (n : Int) → 0 ≤ l2 → l2 ≤ 6 → (∀ ψ : hf_F, Inv ψ → Fr [49] φ ψ → F_java_util_Arrays_fill_49_k1_0_l5 n φ l2 = ψ → Q none ψ x) → hw sc d 12 5 L [] φ x Q := by
  intro n
  induction n with
  | zero =>
    intro φ L l2 g0 g1 g2 g3 hI hM b2a b2b hQ
    exfalso
    omega
  | succ n ih =>
    intro φ L l2 g0 g1 g2 g3 hI hM b2a b2b hQ
    refine sf_12_49_k1_0_v5 g0 g1 g2 g3 ?_
    have e0 := F_java_util_Arrays_fill_49_k1_0_l5_s (φ := φ) (l2 := l2) n
    refine ⟨by unfold hi; omega, by unfold hi; omega, fun q1 => ?_, fun q1 => ?_⟩
    · skip
      have e1a := e0.trans (if_pos q1)
      exact hQ φ hI (fr_rf) e1a
    · skip
      have e1b := e0.trans (if_neg q1)
      refine ⟨by omega, by omega, ?_⟩
      have i1 : Inv (hf_up φ 49 ((l2).toNat) 0) := iv_upI (s := 0) (t := 6) (lo := 0) (u := 5) (z := l2) hI (by decide +kernel) (by omega) (by omega) (by omega) (by omega)
      have r1 : Fr [49] φ (hf_up φ 49 ((l2).toNat) 0) := fr_upa (fr_rf) (by decide)
      exact ih (hf_up φ 49 ((l2).toNat) 0) (jm_st1 L 2 (0, l2 + 1)) (l2 + 1) (get_st1 g0 (by decide) (fun q => absurd q.1 (by decide))) (get_st1 g1 (by decide) (fun q => tg0 q.2)) get_st1e (get_st1 g3 (by decide) (fun q => absurd q.1 (by decide))) i1 (by omega) (by omega) (by omega) (fun χ hIχ hFχ hEχ => hQ χ hIχ (fr_tr r1 hFχ (by decide)) (e1b.trans hEχ))
theorem sf_12_49_k1_0_v {sc : List Int} {d : Nat} {φ : hf_F} {x : Nat} {Q : Option jm_V → hf_F → Nat → Prop} 
    (H : hw sc d 12 5 (jm_st1 (jm_st1 [(0, (2, 49)), (1, (0, 0))] 2 (0, 0)) 3 (0, 6)) [] φ x Q) :
    hw sc d 12 0 [(0, (2, 49)), (1, (0, 0))] [] φ x Q := by
  refine hw_k (c := 0) (b := 0) (e := 1) (by decide +kernel) ?_
  refine hw_st (L' := (jm_st1 [(0, (2, 49)), (1, (0, 0))] 2 (0, 0))) (b := 2) (e := 0) (by decide +kernel) rfl ?_
  refine hw_ald (b := 0) (e := 0) (by decide +kernel) (get_st1 rfl (by decide) (fun q => absurd q.1 (by decide))) (by decide) ?_
  refine hr_len (n := 6) (a0 := 0) (b := 0) (e := 0) 49 rfl (by decide +kernel) ?_
  refine hw_st (L' := (jm_st1 (jm_st1 [(0, (2, 49)), (1, (0, 0))] 2 (0, 0)) 3 (0, 6))) (b := 3) (e := 0) (by decide +kernel) rfl ?_
  exact H
theorem sf_12_49_k1_0 {sc : List Int} {d : Nat} {φ : hf_F} {x : Nat} {Q : Option jm_V → hf_F → Nat → Prop}  (hI : Inv φ)  (hQ : ∀ ψ : hf_F, Inv ψ → Fr [49] φ ψ → F_java_util_Arrays_fill_49_k1_0 φ = ψ → Q none ψ x) : hw sc d 12 0 [(0, (2, 49)), (1, (0, 0))] [] φ x Q := by
  apply sf_12_49_k1_0_v
  have e0 : F_java_util_Arrays_fill_49_k1_0 φ = _ := rfl
  exact sf_12_49_k1_0_l5 ((6 - 0 : Int).toNat + 1) φ (jm_st1 (jm_st1 [(0, (2, 49)), (1, (0, 0))] 2 (0, 0)) 3 (0, 6)) 0 (get_st1 (get_st1 rfl (by decide) (fun q => absurd q.1 (by decide))) (by decide) (fun q => absurd q.1 (by decide))) (get_st1 (get_st1 rfl (by decide) (fun q => tg0 q.2)) (by decide) (fun q => absurd q.1 (by decide))) (get_st1 get_st1e (by decide) (fun q => tg0 q.2)) get_st1e hI (by omega) (by omega) (by omega) (fun χ hIχ hFχ hEχ => hQ χ hIχ (fr_tr (fr_rf) hFχ (by decide)) (e0.trans hEχ))
theorem sf_12_50_k1_0_v5 {sc : List Int} {d : Nat} {φ : hf_F} {x : Nat} {Q : Option jm_V → hf_F → Nat → Prop} {L : jm_L} {l2 : Int} (g0 : jm_get L 0 = some (2, 50)) (g1 : jm_get L 1 = some (0, 0)) (g2 : jm_get L 2 = some (0, l2)) (g3 : jm_get L 3 = some (0, 6))
    (H : hi l2 ∧ hi 6 ∧ (6 ≤ l2 → Q none φ x) ∧ (¬ 6 ≤ l2 → 0 ≤ l2 ∧ l2 < 6 ∧ (hw sc d 12 5 (jm_st1 L 2 (0, l2 + 1)) [] (hf_up φ 50 ((l2).toNat) 0) x Q))) :
    hw sc d 12 5 L [] φ x Q := by
  refine hw_ld (b := 2) (e := 0) (by decide +kernel) g2 ?_
  refine hw_ld (b := 3) (e := 0) (by decide +kernel) g3 ?_
  obtain ⟨hz1, hy1, ht1, hf1⟩ := H
  refine hw_if2 (a0 := 0) (b := 3) (e := 20) (by decide +kernel) hz1 hy1 (fun q => ?_) (fun q => ?_)
  · have H := ht1 q
    exact hw_vret (a0 := 0) (e := 0) (by decide +kernel) H
  · have H := hf1 q
    refine hw_ald (b := 0) (e := 0) (by decide +kernel) g0 (by decide) ?_
    refine hw_ld (b := 2) (e := 0) (by decide +kernel) g2 ?_
    refine hw_ld (b := 1) (e := 0) (by decide +kernel) g1 ?_
    obtain ⟨hl3, hu3, H⟩ := H
    refine hr_as (a0 := 0) (e := 4) (n := 6) 50 rfl (by decide +kernel) hl3 hu3 ?_
    refine hw_inc (L' := (jm_st1 L 2 (0, l2 + 1))) (c := 1) (b := 2) (e := 0) (by decide +kernel) g2 rfl ?_
    refine hw_goto (a0 := 0) (b := 0) (e := 5) (by decide +kernel) ?_
    exact H
theorem sf_12_50_k1_0_l5 {sc : List Int} {d x : Nat} {Q : Option jm_V → hf_F → Nat → Prop} : ∀ (n : Nat) (φ : hf_F) (L : jm_L) (l2 : Int), jm_get L 0 = some (2, 50) → jm_get L 1 = some (0, 0) → jm_get L 2 = some (0, l2) → jm_get L 3 = some (0, 6) → Inv φ → 6 - l2 < (n : Int) → 0 ≤ l2 → l2 ≤ 6 → (∀ ψ : hf_F, Inv ψ → Fr [50] φ ψ → F_java_util_Arrays_fill_50_k1_0_l5 n φ l2 = ψ → Q none ψ x) → hw sc d 12 5 L [] φ x Q := by
  intro n
  induction n with
  | zero =>
    intro φ L l2 g0 g1 g2 g3 hI hM b2a b2b hQ
    exfalso
    omega
  | succ n ih =>
    intro φ L l2 g0 g1 g2 g3 hI hM b2a b2b hQ
    refine sf_12_50_k1_0_v5 g0 g1 g2 g3 ?_
    have e0 := F_java_util_Arrays_fill_50_k1_0_l5_s (φ := φ) (l2 := l2) n
    refine ⟨by unfold hi; omega, by unfold hi; omega, fun q1 => ?_, fun q1 => ?_⟩
    · skip
      have e1a := e0.trans (if_pos q1)
      exact hQ φ hI (fr_rf) e1a
    · skip
      have e1b := e0.trans (if_neg q1)
      refine ⟨by omega, by omega, ?_⟩
      have i1 : Inv (hf_up φ 50 ((l2).toNat) 0) := iv_upIn hI (by decide) (by decide +kernel)
      have r1 : Fr [50] φ (hf_up φ 50 ((l2).toNat) 0) := fr_upa (fr_rf) (by decide)
      exact ih (hf_up φ 50 ((l2).toNat) 0) (jm_st1 L 2 (0, l2 + 1)) (l2 + 1) (get_st1 g0 (by decide) (fun q => absurd q.1 (by decide))) (get_st1 g1 (by decide) (fun q => tg0 q.2)) get_st1e (get_st1 g3 (by decide) (fun q => absurd q.1 (by decide))) i1 (by omega) (by omega) (by omega) (fun χ hIχ hFχ hEχ => hQ χ hIχ (fr_tr r1 hFχ (by decide)) (e1b.trans hEχ))
theorem sf_12_50_k1_0_v {sc : List Int} {d : Nat} {φ : hf_F} {x : Nat} {Q : Option jm_V → hf_F → Nat → Prop} 
    (H : hw sc d 12 5 (jm_st1 (jm_st1 [(0, (2, 50)), (1, (0, 0))] 2 (0, 0)) 3 (0, 6)) [] φ x Q) :
    hw sc d 12 0 [(0, (2, 50)), (1, (0, 0))] [] φ x Q := by
  refine hw_k (c := 0) (b := 0) (e := 1) (by decide +kernel) ?_
  refine hw_st (L' := (jm_st1 [(0, (2, 50)), (1, (0, 0))] 2 (0, 0))) (b := 2) (e := 0) (by decide +kernel) rfl ?_
  refine hw_ald (b := 0) (e := 0) (by decide +kernel) (get_st1 rfl (by decide) (fun q => absurd q.1 (by decide))) (by decide) ?_
  refine hr_len (n := 6) (a0 := 0) (b := 0) (e := 0) 50 rfl (by decide +kernel) ?_
  refine hw_st (L' := (jm_st1 (jm_st1 [(0, (2, 50)), (1, (0, 0))] 2 (0, 0)) 3 (0, 6))) (b := 3) (e := 0) (by decide +kernel) rfl ?_
  exact H
theorem sf_12_50_k1_0 {sc : List Int} {d : Nat} {φ : hf_F} {x : Nat} {Q : Option jm_V → hf_F → Nat → Prop}  (hI : Inv φ)  (hQ : ∀ ψ : hf_F, Inv ψ → Fr [50] φ ψ → F_java_util_Arrays_fill_50_k1_0 φ = ψ → Q none ψ x) : hw sc d 12 0 [(0, (2, 50)), (1, (0, 0))] [] φ x Q := by
  apply sf_12_50_k1_0_v
  have e0 : F_java_util_Arrays_fill_50_k1_0 φ = _ := rfl
  exact sf_12_50_k1_0_l5 ((6 - 0 : Int).toNat + 1) φ (jm_st1 (jm_st1 [(0, (2, 50)), (1, (0, 0))] 2 (0, 0)) 3 (0, 6)) 0 (get_st1 (get_st1 rfl (by decide) (fun q => absurd q.1 (by decide))) (by decide) (fun q => absurd q.1 (by decide))) (get_st1 (get_st1 rfl (by decide) (fun q => tg0 q.2)) (by decide) (fun q => absurd q.1 (by decide))) (get_st1 get_st1e (by decide) (fun q => tg0 q.2)) get_st1e hI (by omega) (by omega) (by omega) (fun χ hIχ hFχ hEχ => hQ χ hIχ (fr_tr (fr_rf) hFχ (by decide)) (e0.trans hEχ))
theorem sf_12_51_k1_0_v5 {sc : List Int} {d : Nat} {φ : hf_F} {x : Nat} {Q : Option jm_V → hf_F → Nat → Prop} {L : jm_L} {l2 : Int} (g0 : jm_get L 0 = some (2, 51)) (g1 : jm_get L 1 = some (0, 0)) (g2 : jm_get L 2 = some (0, l2)) (g3 : jm_get L 3 = some (0, 8))
    (H : hi l2 ∧ hi 8 ∧ (8 ≤ l2 → Q none φ x) ∧ (¬ 8 ≤ l2 → 0 ≤ l2 ∧ l2 < 8 ∧ (hw sc d 12 5 (jm_st1 L 2 (0, l2 + 1)) [] (hf_up φ 51 ((l2).toNat) 0) x Q))) :
    hw sc d 12 5 L [] φ x Q := by
  refine hw_ld (b := 2) (e := 0) (by decide +kernel) g2 ?_
  refine hw_ld (b := 3) (e := 0) (by decide +kernel) g3 ?_
  obtain ⟨hz1, hy1, ht1, hf1⟩ := H
  refine hw_if2 (a0 := 0) (b := 3) (e := 20) (by decide +kernel) hz1 hy1 (fun q => ?_) (fun q => ?_)
  · have H := ht1 q
    exact hw_vret (a0 := 0) (e := 0) (by decide +kernel) H
  · have H := hf1 q
    refine hw_ald (b := 0) (e := 0) (by decide +kernel) g0 (by decide) ?_
    refine hw_ld (b := 2) (e := 0) (by decide +kernel) g2 ?_
    refine hw_ld (b := 1) (e := 0) (by decide +kernel) g1 ?_
    obtain ⟨hl3, hu3, H⟩ := H
    refine hr_as (a0 := 0) (e := 4) (n := 8) 51 rfl (by decide +kernel) hl3 hu3 ?_
    refine hw_inc (L' := (jm_st1 L 2 (0, l2 + 1))) (c := 1) (b := 2) (e := 0) (by decide +kernel) g2 rfl ?_
    refine hw_goto (a0 := 0) (b := 0) (e := 5) (by decide +kernel) ?_
    exact H
theorem sf_12_51_k1_0_l5 {sc : List Int} {d x : Nat} {Q : Option jm_V → hf_F → Nat → Prop} : ∀ (n : Nat) (φ : hf_F) (L : jm_L) (l2 : Int), jm_get L 0 = some (2, 51) → jm_get L 1 = some (0, 0) → jm_get L 2 = some (0, l2) → jm_get L 3 = some (0, 8) → Inv φ → 8 - l2 < (n : Int) → 0 ≤ l2 → l2 ≤ 8 → (∀ ψ : hf_F, Inv ψ → Fr [51] φ ψ → F_java_util_Arrays_fill_51_k1_0_l5 n φ l2 = ψ → Q none ψ x) → hw sc d 12 5 L [] φ x Q := by
  intro n
  induction n with
  | zero =>
    intro φ L l2 g0 g1 g2 g3 hI hM b2a b2b hQ
    exfalso
    omega
  | succ n ih =>
    intro φ L l2 g0 g1 g2 g3 hI hM b2a b2b hQ
    refine sf_12_51_k1_0_v5 g0 g1 g2 g3 ?_
    have e0 := F_java_util_Arrays_fill_51_k1_0_l5_s (φ := φ) (l2 := l2) n
    refine ⟨by unfold hi; omega, by unfold hi; omega, fun q1 => ?_, fun q1 => ?_⟩
    · skip
      have e1a := e0.trans (if_pos q1)
      exact hQ φ hI (fr_rf) e1a
    · skip
      have e1b := e0.trans (if_neg q1)
      refine ⟨by omega, by omega, ?_⟩
      have i1 : Inv (hf_up φ 51 ((l2).toNat) 0) := iv_upIn hI (by decide) (by decide +kernel)
      have r1 : Fr [51] φ (hf_up φ 51 ((l2).toNat) 0) := fr_upa (fr_rf) (by decide)
      exact ih (hf_up φ 51 ((l2).toNat) 0) (jm_st1 L 2 (0, l2 + 1)) (l2 + 1) (get_st1 g0 (by decide) (fun q => absurd q.1 (by decide))) (get_st1 g1 (by decide) (fun q => tg0 q.2)) get_st1e (get_st1 g3 (by decide) (fun q => absurd q.1 (by decide))) i1 (by omega) (by omega) (by omega) (fun χ hIχ hFχ hEχ => hQ χ hIχ (fr_tr r1 hFχ (by decide)) (e1b.trans hEχ))
theorem sf_12_51_k1_0_v {sc : List Int} {d : Nat} {φ : hf_F} {x : Nat} {Q : Option jm_V → hf_F → Nat → Prop} 
    (H : hw sc d 12 5 (jm_st1 (jm_st1 [(0, (2, 51)), (1, (0, 0))] 2 (0, 0)) 3 (0, 8)) [] φ x Q) :
    hw sc d 12 0 [(0, (2, 51)), (1, (0, 0))] [] φ x Q := by
  refine hw_k (c := 0) (b := 0) (e := 1) (by decide +kernel) ?_
  refine hw_st (L' := (jm_st1 [(0, (2, 51)), (1, (0, 0))] 2 (0, 0))) (b := 2) (e := 0) (by decide +kernel) rfl ?_
  refine hw_ald (b := 0) (e := 0) (by decide +kernel) (get_st1 rfl (by decide) (fun q => absurd q.1 (by decide))) (by decide) ?_
  refine hr_len (n := 8) (a0 := 0) (b := 0) (e := 0) 51 rfl (by decide +kernel) ?_
  refine hw_st (L' := (jm_st1 (jm_st1 [(0, (2, 51)), (1, (0, 0))] 2 (0, 0)) 3 (0, 8))) (b := 3) (e := 0) (by decide +kernel) rfl ?_
  exact H
theorem sf_12_51_k1_0 {sc : List Int} {d : Nat} {φ : hf_F} {x : Nat} {Q : Option jm_V → hf_F → Nat → Prop}  (hI : Inv φ)  (hQ : ∀ ψ : hf_F, Inv ψ → Fr [51] φ ψ → F_java_util_Arrays_fill_51_k1_0 φ = ψ → Q none ψ x) : hw sc d 12 0 [(0, (2, 51)), (1, (0, 0))] [] φ x Q := by
  apply sf_12_51_k1_0_v
  have e0 : F_java_util_Arrays_fill_51_k1_0 φ = _ := rfl
  exact sf_12_51_k1_0_l5 ((8 - 0 : Int).toNat + 1) φ (jm_st1 (jm_st1 [(0, (2, 51)), (1, (0, 0))] 2 (0, 0)) 3 (0, 8)) 0 (get_st1 (get_st1 rfl (by decide) (fun q => absurd q.1 (by decide))) (by decide) (fun q => absurd q.1 (by decide))) (get_st1 (get_st1 rfl (by decide) (fun q => tg0 q.2)) (by decide) (fun q => absurd q.1 (by decide))) (get_st1 get_st1e (by decide) (fun q => tg0 q.2)) get_st1e hI (by omega) (by omega) (by omega) (fun χ hIχ hFχ hEχ => hQ χ hIχ (fr_tr (fr_rf) hFχ (by decide)) (e0.trans hEχ))
theorem sf_27_43_v {sc : List Int} {d : Nat} {φ : hf_F} {x : Nat} {Q : Option jm_V → hf_F → Nat → Prop} 
    (H : hw sc d 12 0 [(0, (2, 45)), (1, (0, (-1 : Int)))] [] (hf_up (hf_up (hf_up (hf_up (hf_up (hf_up φ 43 0 0) 43 1 (-1 : Int)) 43 2 (-1 : Int)) 43 3 0) 43 4 0) 43 5 0) x (fun r ψ1 y1 => y1 = x ∧ (r = none ∧ (hw sc d 12 0 [(0, (2, 46)), (1, (0, (-1 : Int)))] [] ψ1 x (fun r ψ2 y2 => y2 = x ∧ (r = none ∧ (hw sc d 12 0 [(0, (2, 47)), (1, (0, 0))] [] ψ2 x (fun r ψ3 y3 => y3 = x ∧ (r = none ∧ (hw sc d 12 0 [(0, (2, 49)), (1, (0, 0))] [] ψ3 x (fun r ψ4 y4 => y4 = x ∧ (r = none ∧ (hw sc d 12 0 [(0, (2, 50)), (1, (0, 0))] [] ψ4 x (fun r ψ5 y5 => y5 = x ∧ (r = none ∧ (hw sc d 12 0 [(0, (2, 51)), (1, (0, 0))] [] ψ5 x (fun r ψ6 y6 => y6 = x ∧ (r = none ∧ (Q none ψ6 x))))))))))))))))))) :
    hw sc (d + 1) 27 0 [(0, (2, 43))] [] φ x Q := by
  refine hw_ald (b := 0) (e := 0) (by decide +kernel) rfl (by decide) ?_
  refine hw_k (c := 0) (b := 0) (e := 1) (by decide +kernel) ?_
  refine hr_pi (b := 4) (e := 0) 43 rfl (by decide +kernel) ?_
  refine hw_ald (b := 0) (e := 0) (by decide +kernel) rfl (by decide) ?_
  refine hw_k (c := (-1 : Int)) (b := 0) (e := 1) (by decide +kernel) ?_
  refine hr_pi (b := 4) (e := 1) 43 rfl (by decide +kernel) ?_
  refine hw_ald (b := 0) (e := 0) (by decide +kernel) rfl (by decide) ?_
  refine hw_k (c := (-1 : Int)) (b := 0) (e := 1) (by decide +kernel) ?_
  refine hr_pi (b := 4) (e := 2) 43 rfl (by decide +kernel) ?_
  refine hw_ald (b := 0) (e := 0) (by decide +kernel) rfl (by decide) ?_
  refine hw_k (c := 0) (b := 0) (e := 1) (by decide +kernel) ?_
  refine hr_pi (b := 4) (e := 3) 43 rfl (by decide +kernel) ?_
  refine hw_ald (b := 0) (e := 0) (by decide +kernel) rfl (by decide) ?_
  refine hw_k (c := 0) (b := 0) (e := 1) (by decide +kernel) ?_
  refine hr_pi (b := 4) (e := 4) 43 rfl (by decide +kernel) ?_
  refine hw_ald (b := 0) (e := 0) (by decide +kernel) rfl (by decide) ?_
  refine hw_k (c := 0) (b := 0) (e := 1) (by decide +kernel) ?_
  refine hr_pi (b := 4) (e := 5) 43 rfl (by decide +kernel) ?_
  refine hw_ald (b := 0) (e := 0) (by decide +kernel) rfl (by decide) ?_
  refine hr_gr (w := 45) (b := 4) (e := 7) 43 rfl (by decide +kernel) ?_
  refine hw_k (c := (-1 : Int)) (b := 0) (e := 1) (by decide +kernel) ?_
  refine hr_calls (b := 12) (e := 2) (nl := 4) (As := [(2, 45), (0, (-1 : Int))]) (R := []) (by decide +kernel) rfl rfl (Nat.le_of_ble_eq_true rfl) (Nat.le_of_ble_eq_true rfl) ?_
  refine hw_mono H ?_
  rintro r ψ1 y1 ⟨hyx, hr, H⟩
  subst hyx
  subst hr
  refine ⟨hnen, ?_⟩
  show hw sc (d + 1) 27 38 [(0, (2, 43))] [] ψ1 y1 Q
  refine hw_ald (b := 0) (e := 0) (by decide +kernel) rfl (by decide) ?_
  refine hr_gr (w := 46) (b := 4) (e := 8) 43 rfl (by decide +kernel) ?_
  refine hw_k (c := (-1 : Int)) (b := 0) (e := 1) (by decide +kernel) ?_
  refine hr_calls (b := 12) (e := 2) (nl := 4) (As := [(2, 46), (0, (-1 : Int))]) (R := []) (by decide +kernel) rfl rfl (Nat.le_of_ble_eq_true rfl) (Nat.le_of_ble_eq_true rfl) ?_
  refine hw_mono H ?_
  rintro r ψ2 y2 ⟨hyx, hr, H⟩
  subst hyx
  subst hr
  refine ⟨hnen, ?_⟩
  show hw sc (d + 1) 27 46 [(0, (2, 43))] [] ψ2 y2 Q
  refine hw_ald (b := 0) (e := 0) (by decide +kernel) rfl (by decide) ?_
  refine hr_gr (w := 47) (b := 4) (e := 9) 43 rfl (by decide +kernel) ?_
  refine hw_k (c := 0) (b := 0) (e := 1) (by decide +kernel) ?_
  refine hr_calls (b := 12) (e := 2) (nl := 4) (As := [(2, 47), (0, 0)]) (R := []) (by decide +kernel) rfl rfl (Nat.le_of_ble_eq_true rfl) (Nat.le_of_ble_eq_true rfl) ?_
  refine hw_mono H ?_
  rintro r ψ3 y3 ⟨hyx, hr, H⟩
  subst hyx
  subst hr
  refine ⟨hnen, ?_⟩
  show hw sc (d + 1) 27 54 [(0, (2, 43))] [] ψ3 y3 Q
  refine hw_ald (b := 0) (e := 0) (by decide +kernel) rfl (by decide) ?_
  refine hr_gr (w := 49) (b := 4) (e := 11) 43 rfl (by decide +kernel) ?_
  refine hw_k (c := 0) (b := 0) (e := 1) (by decide +kernel) ?_
  refine hr_calls (b := 12) (e := 2) (nl := 4) (As := [(2, 49), (0, 0)]) (R := []) (by decide +kernel) rfl rfl (Nat.le_of_ble_eq_true rfl) (Nat.le_of_ble_eq_true rfl) ?_
  refine hw_mono H ?_
  rintro r ψ4 y4 ⟨hyx, hr, H⟩
  subst hyx
  subst hr
  refine ⟨hnen, ?_⟩
  show hw sc (d + 1) 27 62 [(0, (2, 43))] [] ψ4 y4 Q
  refine hw_ald (b := 0) (e := 0) (by decide +kernel) rfl (by decide) ?_
  refine hr_gr (w := 50) (b := 4) (e := 12) 43 rfl (by decide +kernel) ?_
  refine hw_k (c := 0) (b := 0) (e := 1) (by decide +kernel) ?_
  refine hr_calls (b := 12) (e := 2) (nl := 4) (As := [(2, 50), (0, 0)]) (R := []) (by decide +kernel) rfl rfl (Nat.le_of_ble_eq_true rfl) (Nat.le_of_ble_eq_true rfl) ?_
  refine hw_mono H ?_
  rintro r ψ5 y5 ⟨hyx, hr, H⟩
  subst hyx
  subst hr
  refine ⟨hnen, ?_⟩
  show hw sc (d + 1) 27 70 [(0, (2, 43))] [] ψ5 y5 Q
  refine hw_ald (b := 0) (e := 0) (by decide +kernel) rfl (by decide) ?_
  refine hr_gr (w := 51) (b := 4) (e := 13) 43 rfl (by decide +kernel) ?_
  refine hw_k (c := 0) (b := 0) (e := 1) (by decide +kernel) ?_
  refine hr_calls (b := 12) (e := 2) (nl := 4) (As := [(2, 51), (0, 0)]) (R := []) (by decide +kernel) rfl rfl (Nat.le_of_ble_eq_true rfl) (Nat.le_of_ble_eq_true rfl) ?_
  refine hw_mono H ?_
  rintro r ψ6 y6 ⟨hyx, hr, H⟩
  subst hyx
  subst hr
  refine ⟨hnen, ?_⟩
  show hw sc (d + 1) 27 78 [(0, (2, 43))] [] ψ6 y6 Q
  exact hw_vret (a0 := 0) (e := 0) (by decide +kernel) H
theorem sf_27_43 {sc : List Int} {d : Nat} {φ : hf_F} {x : Nat} {Q : Option jm_V → hf_F → Nat → Prop}  (hI : Inv φ)  (hQ : ∀ ψ : hf_F, Inv ψ → Fr [45, 46, 47, 49, 50, 51, 44000, 44001, 44002, 44003, 44004, 44005] φ ψ → F_State_forget_43 φ = ψ → Q none ψ x) : hw sc (d + 1) 27 0 [(0, (2, 43))] [] φ x Q := by
  apply sf_27_43_v
  have e0 : F_State_forget_43 φ = _ := rfl
  have i1 : Inv (hf_up φ 43 0 0) := iv_upn hI (by decide) (by decide) (by decide +kernel)
  have r1 : Fr [45, 46, 47, 49, 50, 51, 44000, 44001, 44002, 44003, 44004, 44005] φ (hf_up φ 43 0 0) := fr_up (fr_rf) (by decide)
  have i2 : Inv (hf_up (hf_up φ 43 0 0) 43 1 (-1 : Int)) := iv_up (lo := (-1 : Int)) (u := 7) i1 (by decide +kernel) (by omega) (by omega)
  have r2 : Fr [45, 46, 47, 49, 50, 51, 44000, 44001, 44002, 44003, 44004, 44005] φ (hf_up (hf_up φ 43 0 0) 43 1 (-1 : Int)) := fr_up r1 (by decide)
  have i3 : Inv (hf_up (hf_up (hf_up φ 43 0 0) 43 1 (-1 : Int)) 43 2 (-1 : Int)) := iv_up (lo := (-1 : Int)) (u := 5) i2 (by decide +kernel) (by omega) (by omega)
  have r3 : Fr [45, 46, 47, 49, 50, 51, 44000, 44001, 44002, 44003, 44004, 44005] φ (hf_up (hf_up (hf_up φ 43 0 0) 43 1 (-1 : Int)) 43 2 (-1 : Int)) := fr_up r2 (by decide)
  have i4 : Inv (hf_up (hf_up (hf_up (hf_up φ 43 0 0) 43 1 (-1 : Int)) 43 2 (-1 : Int)) 43 3 0) := iv_up (lo := (-2147483648 : Int)) (u := 2147483647) i3 (by decide +kernel) (by omega) (by omega)
  have r4 : Fr [45, 46, 47, 49, 50, 51, 44000, 44001, 44002, 44003, 44004, 44005] φ (hf_up (hf_up (hf_up (hf_up φ 43 0 0) 43 1 (-1 : Int)) 43 2 (-1 : Int)) 43 3 0) := fr_up r3 (by decide)
  have i5 : Inv (hf_up (hf_up (hf_up (hf_up (hf_up φ 43 0 0) 43 1 (-1 : Int)) 43 2 (-1 : Int)) 43 3 0) 43 4 0) := iv_upn i4 (by decide) (by decide) (by decide +kernel)
  have r5 : Fr [45, 46, 47, 49, 50, 51, 44000, 44001, 44002, 44003, 44004, 44005] φ (hf_up (hf_up (hf_up (hf_up (hf_up φ 43 0 0) 43 1 (-1 : Int)) 43 2 (-1 : Int)) 43 3 0) 43 4 0) := fr_up r4 (by decide)
  have i6 : Inv (hf_up (hf_up (hf_up (hf_up (hf_up (hf_up φ 43 0 0) 43 1 (-1 : Int)) 43 2 (-1 : Int)) 43 3 0) 43 4 0) 43 5 0) := iv_upn i5 (by decide) (by decide) (by decide +kernel)
  have r6 : Fr [45, 46, 47, 49, 50, 51, 44000, 44001, 44002, 44003, 44004, 44005] φ (hf_up (hf_up (hf_up (hf_up (hf_up (hf_up φ 43 0 0) 43 1 (-1 : Int)) 43 2 (-1 : Int)) 43 3 0) 43 4 0) 43 5 0) := fr_up r5 (by decide)
  refine sf_12_45_k1_m1 (φ := (hf_up (hf_up (hf_up (hf_up (hf_up (hf_up φ 43 0 0) 43 1 (-1 : Int)) 43 2 (-1 : Int)) 43 3 0) 43 4 0) 43 5 0)) i6  (fun ψ1 hI1 hF1 hE1 => ⟨rfl, rfl, ?_⟩)
  have hG1 : Fr [45, 46, 47, 49, 50, 51, 44000, 44001, 44002, 44003, 44004, 44005] φ ψ1 := fr_tr r6 hF1 (by decide)
  have e1 := e0.trans (bnv_e hE1)
  refine sf_12_46_k1_m1 (φ := ψ1) hI1  (fun ψ2 hI2 hF2 hE2 => ⟨rfl, rfl, ?_⟩)
  have hG2 : Fr [45, 46, 47, 49, 50, 51, 44000, 44001, 44002, 44003, 44004, 44005] φ ψ2 := fr_tr hG1 hF2 (by decide)
  have e2 := e1.trans (bnv_e hE2)
  refine sf_12_47_k1_0 (φ := ψ2) hI2  (fun ψ3 hI3 hF3 hE3 => ⟨rfl, rfl, ?_⟩)
  have hG3 : Fr [45, 46, 47, 49, 50, 51, 44000, 44001, 44002, 44003, 44004, 44005] φ ψ3 := fr_tr hG2 hF3 (by decide)
  have e3 := e2.trans (bnv_e hE3)
  refine sf_12_49_k1_0 (φ := ψ3) hI3  (fun ψ4 hI4 hF4 hE4 => ⟨rfl, rfl, ?_⟩)
  have hG4 : Fr [45, 46, 47, 49, 50, 51, 44000, 44001, 44002, 44003, 44004, 44005] φ ψ4 := fr_tr hG3 hF4 (by decide)
  have e4 := e3.trans (bnv_e hE4)
  refine sf_12_50_k1_0 (φ := ψ4) hI4  (fun ψ5 hI5 hF5 hE5 => ⟨rfl, rfl, ?_⟩)
  have hG5 : Fr [45, 46, 47, 49, 50, 51, 44000, 44001, 44002, 44003, 44004, 44005] φ ψ5 := fr_tr hG4 hF5 (by decide)
  have e5 := e4.trans (bnv_e hE5)
  refine sf_12_51_k1_0 (φ := ψ5) hI5  (fun ψ6 hI6 hF6 hE6 => ⟨rfl, rfl, ?_⟩)
  have hG6 : Fr [45, 46, 47, 49, 50, 51, 44000, 44001, 44002, 44003, 44004, 44005] φ ψ6 := fr_tr hG5 hF6 (by decide)
  have e6 := e5.trans (bnv_e hE6)
  exact hQ ψ6 hI6 hG6 e6
theorem sf_120_5_v {sc : List Int} {d : Nat} {φ : hf_F} {x : Nat} {Q : Option jm_V → hf_F → Nat → Prop} {v1 v2 : Int}
    (H : 0 ≤ ((v1 * 8) + v2) ∧ ((v1 * 8) + v2) < 40 ∧ (Q (some (1, φ 7 (((v1 * 8) + v2).toNat))) φ x)) :
    hw sc d 120 0 [(0, (2, 5)), (1, (0, v1)), (2, (0, v2))] [] φ x Q := by
  refine hw_ald (b := 0) (e := 0) (by decide +kernel) rfl (by decide) ?_
  refine hr_gr (w := 7) (b := 3) (e := 1) 5 rfl (by decide +kernel) ?_
  refine hw_ld (b := 1) (e := 0) (by decide +kernel) rfl ?_
  refine hw_k (c := 8) (b := 1) (e := 2) (by decide +kernel) ?_
  refine hw_bin (w := v1 * 8) (a0 := 0) (b := 2) (e := 0) (by decide +kernel) rfl ?_
  refine hw_ld (b := 2) (e := 0) (by decide +kernel) rfl ?_
  refine hw_bin (w := (v1 * 8) + v2) (a0 := 0) (b := 0) (e := 0) (by decide +kernel) rfl ?_
  obtain ⟨hl1, hu1, H⟩ := H
  refine hr_all (a0 := 0) (e := 0) (n := 40) (w := φ 7 (((v1 * 8) + v2).toNat)) 7 rfl (by decide +kernel) hl1 hu1 rfl ?_
  exact hw_lret (a0 := 0) (e := 4) (by decide +kernel) H
theorem sf_120_5 {sc : List Int} {d : Nat} {φ : hf_F} {x : Nat} {Q : Option jm_V → hf_F → Nat → Prop} {v1 v2 : Int} (hI : Inv φ) (h1a : 0 ≤ v1) (h1b : v1 ≤ 4) (h2a : 0 ≤ v2) (h2b : v2 ≤ 7) (hQ : ∀ (r : Int), True → F_Plan_nameOf_5 φ v1 v2 = r → Q (some (1, r)) φ x) : hw sc d 120 0 [(0, (2, 5)), (1, (0, v1)), (2, (0, v2))] [] φ x Q := by
  apply sf_120_5_v
  have e0 : F_Plan_nameOf_5 φ v1 v2 = _ := rfl
  refine ⟨by omega, by omega, ?_⟩
  exact hQ (φ 7 (((v1 * 8) + v2).toNat)) trivial e0
theorem sf_63_52_v {sc : List Int} {d : Nat} {φ : hf_F} {x : Nat} {Q : Option jm_V → hf_F → Nat → Prop} 
    (H : Q none (hf_up (hf_up (hf_up φ 52 3 0) 52 4 0) 52 5 0) x) :
    hw sc d 63 0 [(0, (2, 52))] [] φ x Q := by
  refine hw_ald (b := 0) (e := 0) (by decide +kernel) rfl (by decide) ?_
  refine hw_k (c := 0) (b := 0) (e := 1) (by decide +kernel) ?_
  refine hr_pi (b := 5) (e := 3) 52 rfl (by decide +kernel) ?_
  refine hw_ald (b := 0) (e := 0) (by decide +kernel) rfl (by decide) ?_
  refine hw_k (c := 0) (b := 0) (e := 1) (by decide +kernel) ?_
  refine hr_pi (b := 5) (e := 4) 52 rfl (by decide +kernel) ?_
  refine hw_ald (b := 0) (e := 0) (by decide +kernel) rfl (by decide) ?_
  refine hw_k (c := 0) (b := 0) (e := 1) (by decide +kernel) ?_
  refine hr_pz (b := 5) (e := 5) 52 rfl (by decide +kernel) (by decide) ?_
  exact hw_vret (a0 := 0) (e := 0) (by decide +kernel) H
theorem sf_63_52 {sc : List Int} {d : Nat} {φ : hf_F} {x : Nat} {Q : Option jm_V → hf_F → Nat → Prop}  (hI : Inv φ)  (hQ : ∀ ψ : hf_F, Inv ψ → Fr [53003, 53004, 53005] φ ψ → F_Sentence_forget_52 φ = ψ → Q none ψ x) : hw sc d 63 0 [(0, (2, 52))] [] φ x Q := by
  apply sf_63_52_v
  have e0 : F_Sentence_forget_52 φ = _ := rfl
  have i1 : Inv (hf_up φ 52 3 0) := iv_up (lo := 0) (u := 40) hI (by decide +kernel) (by omega) (by omega)
  have r1 : Fr [53003, 53004, 53005] φ (hf_up φ 52 3 0) := fr_up (fr_rf) (by decide)
  have i2 : Inv (hf_up (hf_up φ 52 3 0) 52 4 0) := iv_up (lo := 0) (u := 20) i1 (by decide +kernel) (by omega) (by omega)
  have r2 : Fr [53003, 53004, 53005] φ (hf_up (hf_up φ 52 3 0) 52 4 0) := fr_up r1 (by decide)
  have i3 : Inv (hf_up (hf_up (hf_up φ 52 3 0) 52 4 0) 52 5 0) := iv_up (lo := 0) (u := 1) i2 (by decide +kernel) (by omega) (by omega)
  have r3 : Fr [53003, 53004, 53005] φ (hf_up (hf_up (hf_up φ 52 3 0) 52 4 0) 52 5 0) := fr_up r2 (by decide)
  exact hQ (hf_up (hf_up (hf_up φ 52 3 0) 52 4 0) 52 5 0) i3 r3 e0
theorem sf_62_0_v {sc : List Int} {d : Nat} {φ : hf_F} {x : Nat} {Q : Option jm_V → hf_F → Nat → Prop} 
    (H : Q none (hf_up (hf_up φ 0 12 (φ 1 9)) 1 2 0) x) :
    hw sc d 62 0 [(0, (2, 0))] [] φ x Q := by
  refine hw_ald (b := 0) (e := 0) (by decide +kernel) rfl (by decide) ?_
  refine hw_ald (b := 0) (e := 0) (by decide +kernel) rfl (by decide) ?_
  refine hr_gr (w := 1) (b := 0) (e := 0) 0 rfl (by decide +kernel) ?_
  refine hr_gi (w := φ 1 9) (b := 1) (e := 9) 1 rfl (by decide +kernel) rfl ?_
  refine hr_pi (b := 0) (e := 12) 0 rfl (by decide +kernel) ?_
  refine hw_ald (b := 0) (e := 0) (by decide +kernel) rfl (by decide) ?_
  refine hr_gr (w := 1) (b := 0) (e := 0) 0 rfl (by decide +kernel) ?_
  refine hw_k (c := 0) (b := 0) (e := 1) (by decide +kernel) ?_
  refine hr_pi (b := 1) (e := 2) 1 rfl (by decide +kernel) ?_
  exact hw_vret (a0 := 0) (e := 0) (by decide +kernel) H
theorem sf_62_0 {sc : List Int} {d : Nat} {φ : hf_F} {x : Nat} {Q : Option jm_V → hf_F → Nat → Prop}  (hI : Inv φ)  (hQ : ∀ ψ : hf_F, Inv ψ → Fr [1012, 2002] φ ψ → (ψ 1 2 = 0) → F_RideLaws_closeText_0 φ = ψ → Q none ψ x) : hw sc d 62 0 [(0, (2, 0))] [] φ x Q := by
  apply sf_62_0_v
  have e0 : F_RideLaws_closeText_0 φ = _ := rfl
  have f1 := iv_at (a := 1) (k := 9) (lo := 0) (u := 4) hI (by decide +kernel)
  have i2 : Inv (hf_up φ 0 12 (φ 1 9)) := iv_up (lo := 0) (u := 4) hI (by decide +kernel) (by omega) (by omega)
  have r2 : Fr [1012, 2002] φ (hf_up φ 0 12 (φ 1 9)) := fr_up (fr_rf) (by decide)
  have i3 : Inv (hf_up (hf_up φ 0 12 (φ 1 9)) 1 2 0) := iv_up (lo := 0) (u := 940) i2 (by decide +kernel) (by omega) (by omega)
  have r3 : Fr [1012, 2002] φ (hf_up (hf_up φ 0 12 (φ 1 9)) 1 2 0) := fr_up r2 (by decide)
  have f4 : (hf_up (hf_up φ 0 12 (φ 1 9)) 1 2 0) 1 2 = 0 := hf_up_eq
  exact hQ (hf_up (hf_up φ 0 12 (φ 1 9)) 1 2 0) i3 r3 (by omega) e0
theorem sf_34_1_v12 {sc : List Int} {d : Nat} {φ : hf_F} {x : Nat} {Q : Option jm_V → hf_F → Nat → Prop} {L : jm_L} {l1 l3 : Int} (g0 : jm_get L 0 = some (2, 1)) (g1 : jm_get L 1 = some (1, l1)) (g3 : jm_get L 3 = some (0, l3))
    (H : hi l3 ∧ hi 23 ∧ (23 ≤ l3 → Q none φ x) ∧ (¬ 23 ≤ l3 → 0 ≤ l3 ∧ l3 < 23 ∧ (hi (jm_cmp (φ 3 ((l3).toNat)) l1) ∧ (¬ (jm_cmp (φ 3 ((l3).toNat)) l1) = 0 → hw sc d 34 12 (jm_st1 L 3 (0, l3 + 1)) [] φ x Q) ∧ (¬ (¬ (jm_cmp (φ 3 ((l3).toNat)) l1) = 0) → hw sc d 34 12 (jm_st1 L 3 (0, l3 + 1)) [] (hf_up (hf_up φ 1 5 3) 1 7 l3) x Q)))) :
    hw sc d 34 12 L [] φ x Q := by
  refine hw_ld (b := 3) (e := 0) (by decide +kernel) g3 ?_
  refine hw_k (c := 23) (b := 1) (e := 2) (by decide +kernel) ?_
  obtain ⟨hz1, hy1, ht1, hf1⟩ := H
  refine hw_if2 (a0 := 0) (b := 3) (e := 45) (by decide +kernel) hz1 hy1 (fun q => ?_) (fun q => ?_)
  · have H := ht1 q
    exact hw_vret (a0 := 0) (e := 0) (by decide +kernel) H
  · have H := hf1 q
    refine hw_ald (b := 0) (e := 0) (by decide +kernel) g0 (by decide) ?_
    refine hr_gr (w := 3) (b := 1) (e := 1) 1 rfl (by decide +kernel) ?_
    refine hw_ld (b := 3) (e := 0) (by decide +kernel) g3 ?_
    obtain ⟨hl3, hu3, H⟩ := H
    refine hr_all (a0 := 0) (e := 0) (n := 23) (w := φ 3 ((l3).toNat)) 3 rfl (by decide +kernel) hl3 hu3 rfl ?_
    refine hw_lld (b := 1) (e := 0) (by decide +kernel) g1 ?_
    refine hw_lcmp (w := jm_cmp (φ 3 ((l3).toNat)) l1) (a0 := 0) (b := 0) (e := 0) (by decide +kernel) rfl ?_
    obtain ⟨hz4, ht4, hf4⟩ := H
    refine hw_if (a0 := 0) (b := 1) (e := 39) (by decide +kernel) hz4 (fun q => ?_) (fun q => ?_)
    · have H := ht4 q
      refine hw_inc (L' := (jm_st1 L 3 (0, l3 + 1))) (c := 1) (b := 3) (e := 0) (by decide +kernel) g3 rfl ?_
      refine hw_goto (a0 := 0) (b := 0) (e := 12) (by decide +kernel) ?_
      exact H
    · have H := hf4 q
      refine hw_ald (b := 0) (e := 0) (by decide +kernel) g0 (by decide) ?_
      refine hw_k (c := 3) (b := 0) (e := 1) (by decide +kernel) ?_
      refine hr_pi (b := 1) (e := 5) 1 rfl (by decide +kernel) ?_
      refine hw_ald (b := 0) (e := 0) (by decide +kernel) g0 (by decide) ?_
      refine hw_ld (b := 3) (e := 0) (by decide +kernel) g3 ?_
      refine hr_pi (b := 1) (e := 7) 1 rfl (by decide +kernel) ?_
      refine hw_inc (L' := (jm_st1 L 3 (0, l3 + 1))) (c := 1) (b := 3) (e := 0) (by decide +kernel) g3 rfl ?_
      refine hw_goto (a0 := 0) (b := 0) (e := 12) (by decide +kernel) ?_
      exact H
theorem sf_34_1_l12 {sc : List Int} {d x : Nat} {Q : Option jm_V → hf_F → Nat → Prop} : ∀ (n : Nat) (φ : hf_F) (L : jm_L) (l1 l3 : Int), jm_get L 0 = some (2, 1) → jm_get L 1 = some (1, l1) → jm_get L 3 = some (0, l3) → Inv φ → 23 - l3 < (n : Int) → 0 ≤ l3 → l3 ≤ 23 → (∀ ψ : hf_F, Inv ψ → Fr [2005, 2007, 2008] φ ψ → F_Reader_takeWord_1_l12 n φ l1 l3 = ψ → Q none ψ x) → hw sc d 34 12 L [] φ x Q := by
  intro n
  induction n with
  | zero =>
    intro φ L l1 l3 g0 g1 g3 hI hM b3a b3b hQ
    exfalso
    omega
  | succ n ih =>
    intro φ L l1 l3 g0 g1 g3 hI hM b3a b3b hQ
    refine sf_34_1_v12 g0 g1 g3 ?_
    have e0 := F_Reader_takeWord_1_l12_s (φ := φ) (l1 := l1) (l3 := l3) n
    refine ⟨by unfold hi; omega, by unfold hi; omega, fun q1 => ?_, fun q1 => ?_⟩
    · skip
      have e1a := e0.trans (if_pos q1)
      exact hQ φ hI (fr_rf) e1a
    · skip
      have e1b := e0.trans (if_neg q1)
      refine ⟨by omega, by omega, ?_⟩
      have f1 := hr_cmp (φ 3 ((l3).toNat)) l1
      refine ⟨by unfold hi; omega, fun q4 => ?_, fun q4 => ?_⟩
      · skip
        have e4a := e1b.trans (if_pos q4)
        exact ih φ (jm_st1 L 3 (0, l3 + 1)) l1 (l3 + 1) (get_st1 g0 (by decide) (fun q => absurd q.1 (by decide))) (get_st1 g1 (by decide) (fun q => absurd q.1 (by decide))) get_st1e hI (by omega) (by omega) (by omega) (fun χ hIχ hFχ hEχ => hQ χ hIχ (fr_tr (fr_rf) hFχ (by decide)) (e4a.trans hEχ))
      · skip
        have e4b := e1b.trans (if_neg q4)
        have i2 : Inv (hf_up φ 1 5 3) := iv_up (lo := 0) (u := 5) hI (by decide +kernel) (by omega) (by omega)
        have r2 : Fr [2005, 2007, 2008] φ (hf_up φ 1 5 3) := fr_up (fr_rf) (by decide)
        have i3 : Inv (hf_up (hf_up φ 1 5 3) 1 7 l3) := iv_up (lo := (-128 : Int)) (u := 999) i2 (by decide +kernel) (by omega) (by omega)
        have r3 : Fr [2005, 2007, 2008] φ (hf_up (hf_up φ 1 5 3) 1 7 l3) := fr_up r2 (by decide)
        exact ih (hf_up (hf_up φ 1 5 3) 1 7 l3) (jm_st1 L 3 (0, l3 + 1)) l1 (l3 + 1) (get_st1 g0 (by decide) (fun q => absurd q.1 (by decide))) (get_st1 g1 (by decide) (fun q => absurd q.1 (by decide))) get_st1e i3 (by omega) (by omega) (by omega) (fun χ hIχ hFχ hEχ => hQ χ hIχ (fr_tr r3 hFχ (by decide)) (e4b.trans hEχ))
theorem sf_34_1_v {sc : List Int} {d : Nat} {φ : hf_F} {x : Nat} {Q : Option jm_V → hf_F → Nat → Prop} {v1 : Int}
    (H : hw sc d 34 12 (jm_st1 [(0, (2, 1)), (1, (1, v1))] 3 (0, 0)) [] (hf_up (hf_up φ 1 8 v1) 1 5 2) x Q) :
    hw sc d 34 0 [(0, (2, 1)), (1, (1, v1))] [] φ x Q := by
  refine hw_ald (b := 0) (e := 0) (by decide +kernel) rfl (by decide) ?_
  refine hw_lld (b := 1) (e := 0) (by decide +kernel) rfl ?_
  refine hr_pl (b := 1) (e := 8) 1 rfl (by decide +kernel) ?_
  refine hw_ald (b := 0) (e := 0) (by decide +kernel) rfl (by decide) ?_
  refine hw_k (c := 2) (b := 0) (e := 1) (by decide +kernel) ?_
  refine hr_pi (b := 1) (e := 5) 1 rfl (by decide +kernel) ?_
  refine hw_k (c := 0) (b := 0) (e := 1) (by decide +kernel) ?_
  refine hw_st (L' := (jm_st1 [(0, (2, 1)), (1, (1, v1))] 3 (0, 0))) (b := 3) (e := 0) (by decide +kernel) rfl ?_
  exact H
theorem sf_34_1 {sc : List Int} {d : Nat} {φ : hf_F} {x : Nat} {Q : Option jm_V → hf_F → Nat → Prop} {v1 : Int} (hI : Inv φ)  (hQ : ∀ ψ : hf_F, Inv ψ → Fr [2005, 2007, 2008] φ ψ → F_Reader_takeWord_1 φ v1 = ψ → Q none ψ x) : hw sc d 34 0 [(0, (2, 1)), (1, (1, v1))] [] φ x Q := by
  apply sf_34_1_v
  have e0 : F_Reader_takeWord_1 φ v1 = _ := rfl
  have i1 : Inv (hf_up φ 1 8 v1) := iv_upn hI (by decide) (by decide) (by decide +kernel)
  have r1 : Fr [2005, 2007, 2008] φ (hf_up φ 1 8 v1) := fr_up (fr_rf) (by decide)
  have i2 : Inv (hf_up (hf_up φ 1 8 v1) 1 5 2) := iv_up (lo := 0) (u := 5) i1 (by decide +kernel) (by omega) (by omega)
  have r2 : Fr [2005, 2007, 2008] φ (hf_up (hf_up φ 1 8 v1) 1 5 2) := fr_up r1 (by decide)
  exact sf_34_1_l12 ((23 - 0 : Int).toNat + 1) (hf_up (hf_up φ 1 8 v1) 1 5 2) (jm_st1 [(0, (2, 1)), (1, (1, v1))] 3 (0, 0)) v1 0 (get_st1 rfl (by decide) (fun q => absurd q.1 (by decide))) (get_st1 rfl (by decide) (fun q => absurd q.1 (by decide))) get_st1e i2 (by omega) (by omega) (by omega) (fun χ hIχ hFχ hEχ => hQ χ hIχ (fr_tr r2 hFχ (by decide)) (e0.trans hEχ))
theorem sf_41_31_v2 {sc : List Int} {d : Nat} {φ : hf_F} {x : Nat} {Q : Option jm_V → hf_F → Nat → Prop} {L : jm_L} {l1 l3 : Int} (g0 : jm_get L 0 = some (2, 31)) (g1 : jm_get L 1 = some (1, l1)) (g3 : jm_get L 3 = some (0, l3))
    (H : hi l3 ∧ hi 5 ∧ (5 ≤ l3 → Q (some (0, 0)) φ x) ∧ (¬ 5 ≤ l3 → hw sc d 42 0 [(0, (2, 31)), (1, (0, l3)), (2, (1, l1))] [] φ x (fun r ψ3 y3 => y3 = x ∧ φ = ψ3 ∧ (∃ z3 : Int, r = some (0, z3) ∧ (hi z3 ∧ hi (-1 : Int) ∧ (z3 = (-1 : Int) → hw sc (d + 1) 41 2 (jm_st1 L 3 (0, l3 + 1)) [] φ x Q) ∧ (¬ z3 = (-1 : Int) → Q (some (0, 1)) φ x)))))) :
    hw sc (d + 1) 41 2 L [] φ x Q := by
  refine hw_ld (b := 3) (e := 0) (by decide +kernel) g3 ?_
  refine hw_k (c := 5) (b := 0) (e := 1) (by decide +kernel) ?_
  obtain ⟨hz1, hy1, ht1, hf1⟩ := H
  refine hw_if2 (a0 := 0) (b := 3) (e := 25) (by decide +kernel) hz1 hy1 (fun q => ?_) (fun q => ?_)
  · have H := ht1 q
    refine hw_k (c := 0) (b := 0) (e := 1) (by decide +kernel) ?_
    exact hw_ret (a0 := 0) (e := 1) (by decide +kernel) (Or.inr ⟨rfl, by decide⟩) H
  · have H := hf1 q
    refine hw_ald (b := 0) (e := 0) (by decide +kernel) g0 (by decide) ?_
    refine hw_ld (b := 3) (e := 0) (by decide +kernel) g3 ?_
    refine hw_lld (b := 1) (e := 0) (by decide +kernel) g1 ?_
    refine hr_call (a0 := 13) (b := 42) (e := 3) (nl := 5) (As := [(0, l3), (1, l1)]) (R := []) 31 rfl (by decide +kernel) rfl rfl (Nat.le_of_ble_eq_true rfl) (Nat.le_of_ble_eq_true rfl) ?_
    refine hw_mono H ?_
    rintro r ψ3 y3 ⟨hyx, hψx, z3, hr, H⟩
    subst hyx
    subst hψx
    subst hr
    refine ⟨hne0, ?_⟩
    show hw sc (d + 1) 41 13 L [(0, z3)] φ y3 Q
    refine hw_k (c := (-1 : Int)) (b := 0) (e := 1) (by decide +kernel) ?_
    obtain ⟨hz4, hy4, ht4, hf4⟩ := H
    refine hw_if2 (a0 := 0) (b := 0) (e := 19) (by decide +kernel) hz4 hy4 (fun q => ?_) (fun q => ?_)
    · have H := ht4 q
      refine hw_inc (L' := (jm_st1 L 3 (0, l3 + 1))) (c := 1) (b := 3) (e := 0) (by decide +kernel) g3 rfl ?_
      refine hw_goto (a0 := 0) (b := 0) (e := 2) (by decide +kernel) ?_
      exact H
    · have H := hf4 q
      refine hw_k (c := 1) (b := 0) (e := 1) (by decide +kernel) ?_
      exact hw_ret (a0 := 0) (e := 1) (by decide +kernel) (Or.inr ⟨rfl, by decide⟩) H
theorem sf_41_31_l2 {sc : List Int} {d x : Nat} {Q : Option jm_V → hf_F → Nat → Prop} : ∀ (n : Nat) (φ : hf_F) (L : jm_L) (l1 l3 : Int), jm_get L 0 = some (2, 31) → jm_get L 1 = some (1, l1) → jm_get L 3 = some (0, l3) → Inv φ → 5 - l3 < (n : Int) → 0 ≤ l3 → l3 ≤ 5 → (∀ (r : Int), 0 ≤ r ∧ r ≤ 1 → F_Plan_isTold_31_l2 n φ l1 l3 = r → Q (some (0, r)) φ x) → hw sc (d + 1) 41 2 L [] φ x Q := by
  intro n
  induction n with
  | zero =>
    intro φ L l1 l3 g0 g1 g3 hI hM b3a b3b hQ
    exfalso
    omega
  | succ n ih =>
    intro φ L l1 l3 g0 g1 g3 hI hM b3a b3b hQ
    refine sf_41_31_v2 g0 g1 g3 ?_
    have e0 := F_Plan_isTold_31_l2_s (φ := φ) (l1 := l1) (l3 := l3) n
    refine ⟨by unfold hi; omega, by unfold hi; omega, fun q1 => ?_, fun q1 => ?_⟩
    · skip
      have e1a := e0.trans (if_pos q1)
      exact hQ 0 ⟨by omega, by omega⟩ e1a
    · skip
      have e1b := e0.trans (if_neg q1)
      refine sf_42_31 (φ := φ) hI (by omega) (by omega) (fun z3 hp3 hE3 => ⟨rfl, rfl, z3, rfl, ?_⟩)
      have e3 := e1b.trans (bnp_e hE3)
      refine ⟨by unfold hi; omega, by unfold hi; omega, fun q4 => ?_, fun q4 => ?_⟩
      · skip
        have e4a := e3.trans (if_pos q4)
        exact ih φ (jm_st1 L 3 (0, l3 + 1)) l1 (l3 + 1) (get_st1 g0 (by decide) (fun q => absurd q.1 (by decide))) (get_st1 g1 (by decide) (fun q => absurd q.1 (by decide))) get_st1e hI (by omega) (by omega) (by omega) (fun rr hpχ hEχ => hQ rr hpχ (e4a.trans hEχ))
      · skip
        have e4b := e3.trans (if_neg q4)
        exact hQ 1 ⟨by omega, by omega⟩ e4b
theorem sf_41_31_v {sc : List Int} {d : Nat} {φ : hf_F} {x : Nat} {Q : Option jm_V → hf_F → Nat → Prop} {v1 : Int}
    (H : hw sc (d + 1) 41 2 (jm_st1 [(0, (2, 31)), (1, (1, v1))] 3 (0, 0)) [] φ x Q) :
    hw sc (d + 1) 41 0 [(0, (2, 31)), (1, (1, v1))] [] φ x Q := by
  refine hw_k (c := 0) (b := 0) (e := 1) (by decide +kernel) ?_
  refine hw_st (L' := (jm_st1 [(0, (2, 31)), (1, (1, v1))] 3 (0, 0))) (b := 3) (e := 0) (by decide +kernel) rfl ?_
  exact H
theorem sf_41_31 {sc : List Int} {d : Nat} {φ : hf_F} {x : Nat} {Q : Option jm_V → hf_F → Nat → Prop} {v1 : Int} (hI : Inv φ)  (hQ : ∀ (r : Int), 0 ≤ r ∧ r ≤ 1 → F_Plan_isTold_31 φ v1 = r → Q (some (0, r)) φ x) : hw sc (d + 1) 41 0 [(0, (2, 31)), (1, (1, v1))] [] φ x Q := by
  apply sf_41_31_v
  have e0 : F_Plan_isTold_31 φ v1 = _ := rfl
  exact sf_41_31_l2 ((5 - 0 : Int).toNat + 1) φ (jm_st1 [(0, (2, 31)), (1, (1, v1))] 3 (0, 0)) v1 0 (get_st1 rfl (by decide) (fun q => absurd q.1 (by decide))) (get_st1 rfl (by decide) (fun q => absurd q.1 (by decide))) get_st1e hI (by omega) (by omega) (by omega) (fun rr hpχ hEχ => hQ rr hpχ (e0.trans hEχ))
theorem sf_48_182_v2 {sc : List Int} {d : Nat} {φ : hf_F} {x : Nat} {Q : Option jm_V → hf_F → Nat → Prop} {L : jm_L} {l1 l2 l3 : Int} (g0 : jm_get L 0 = some (2, 182)) (g1 : jm_get L 1 = some (0, l1)) (g2 : jm_get L 2 = some (0, l2)) (g3 : jm_get L 3 = some (0, l3))
    (H : hi l3 ∧ hi (φ 32 1) ∧ ((φ 32 1) ≤ l3 → Q (some (0, 0)) φ x) ∧ (¬ (φ 32 1) ≤ l3 → 0 ≤ l3 ∧ l3 < 8 ∧ (hi (φ 36 ((l3).toNat)) ∧ hi l1 ∧ (¬ (φ 36 ((l3).toNat)) = l1 → hw sc d 48 2 (jm_st1 L 3 (0, l3 + 1)) [] φ x Q) ∧ (¬ (¬ (φ 36 ((l3).toNat)) = l1) → 0 ≤ l3 ∧ l3 < 8 ∧ (hi l2 ∧ (¬ (jm_n (φ 44 ((l3).toNat))) = l2 → hw sc d 48 2 (jm_st1 L 3 (0, l3 + 1)) [] φ x Q) ∧ (¬ (¬ (jm_n (φ 44 ((l3).toNat))) = l2) → Q (some (0, 1)) φ x)))))) :
    hw sc d 48 2 L [] φ x Q := by
  refine hw_ld (b := 3) (e := 0) (by decide +kernel) g3 ?_
  refine hw_ald (b := 0) (e := 0) (by decide +kernel) g0 (by decide) ?_
  refine hr_gr (w := 31) (b := 7) (e := 1) 182 rfl (by decide +kernel) ?_
  refine hr_gr (w := 32) (b := 3) (e := 0) 31 rfl (by decide +kernel) ?_
  refine hw_k (c := 1) (b := 0) (e := 1) (by decide +kernel) ?_
  refine hr_al (b := 0) (a0 := 0) (e := 0) (n := 5) (w := φ 32 1) 32 rfl (by decide +kernel) (by decide) (by decide) (by decide) rfl ?_
  obtain ⟨hz1, hy1, ht1, hf1⟩ := H
  refine hw_if2 (a0 := 0) (b := 3) (e := 49) (by decide +kernel) hz1 hy1 (fun q => ?_) (fun q => ?_)
  · have H := ht1 q
    refine hw_k (c := 0) (b := 0) (e := 1) (by decide +kernel) ?_
    exact hw_ret (a0 := 0) (e := 1) (by decide +kernel) (Or.inr ⟨rfl, by decide⟩) H
  · have H := hf1 q
    refine hw_ald (b := 0) (e := 0) (by decide +kernel) g0 (by decide) ?_
    refine hr_gr (w := 31) (b := 7) (e := 1) 182 rfl (by decide +kernel) ?_
    refine hr_gr (w := 36) (b := 3) (e := 4) 31 rfl (by decide +kernel) ?_
    refine hw_ld (b := 3) (e := 0) (by decide +kernel) g3 ?_
    obtain ⟨hl3, hu3, H⟩ := H
    refine hr_al (b := 0) (a0 := 0) (e := 0) (n := 8) (w := φ 36 ((l3).toNat)) 36 rfl (by decide +kernel) (by decide) hl3 hu3 rfl ?_
    refine hw_ld (b := 1) (e := 0) (by decide +kernel) g1 ?_
    obtain ⟨hz4, hy4, ht4, hf4⟩ := H
    refine hw_if2 (a0 := 0) (b := 1) (e := 43) (by decide +kernel) hz4 hy4 (fun q => ?_) (fun q => ?_)
    · have H := ht4 q
      refine hw_inc (L' := (jm_st1 L 3 (0, l3 + 1))) (c := 1) (b := 3) (e := 0) (by decide +kernel) g3 rfl ?_
      refine hw_goto (a0 := 0) (b := 0) (e := 2) (by decide +kernel) ?_
      exact H
    · have H := hf4 q
      refine hw_ald (b := 0) (e := 0) (by decide +kernel) g0 (by decide) ?_
      refine hr_gr (w := 43) (b := 7) (e := 2) 182 rfl (by decide +kernel) ?_
      refine hr_gr (w := 44) (b := 4) (e := 6) 43 rfl (by decide +kernel) ?_
      refine hw_ld (b := 3) (e := 0) (by decide +kernel) g3 ?_
      obtain ⟨hl5, hu5, H⟩ := H
      refine hr_al (b := 0) (a0 := 0) (e := 0) (n := 8) (w := φ 44 ((l3).toNat)) 44 rfl (by decide +kernel) (by decide) hl5 hu5 rfl ?_
      refine hw_ld (b := 2) (e := 0) (by decide +kernel) g2 ?_
      obtain ⟨hz6, ht6, hf6⟩ := H
      refine hw_if2l (a0 := 0) (b := 1) (e := 43) (by decide +kernel) hz6 (fun q => ?_) (fun q => ?_)
      · have H := ht6 q
        refine hw_inc (L' := (jm_st1 L 3 (0, l3 + 1))) (c := 1) (b := 3) (e := 0) (by decide +kernel) g3 rfl ?_
        refine hw_goto (a0 := 0) (b := 0) (e := 2) (by decide +kernel) ?_
        exact H
      · have H := hf6 q
        refine hw_k (c := 1) (b := 0) (e := 1) (by decide +kernel) ?_
        exact hw_ret (a0 := 0) (e := 1) (by decide +kernel) (Or.inr ⟨rfl, by decide⟩) H
theorem sf_48_182_l2 {sc : List Int} {d x : Nat} {Q : Option jm_V → hf_F → Nat → Prop} : ∀ (n : Nat) (φ : hf_F) (L : jm_L) (l1 l2 l3 : Int), jm_get L 0 = some (2, 182) → jm_get L 1 = some (0, l1) → jm_get L 2 = some (0, l2) → jm_get L 3 = some (0, l3) → Inv φ → 8 - l3 < (n : Int) → 0 ≤ l1 → l1 ≤ 2 → 0 ≤ l2 → l2 ≤ 29 → 0 ≤ l3 → l3 ≤ 8 → (∀ (r : Int), 0 ≤ r ∧ r ≤ 1 → F_RideText_isTaken_182_l2 n φ l1 l2 l3 = r → Q (some (0, r)) φ x) → hw sc d 48 2 L [] φ x Q := by
  intro n
  induction n with
  | zero =>
    intro φ L l1 l2 l3 g0 g1 g2 g3 hI hM b1a b1b b2a b2b b3a b3b hQ
    exfalso
    omega
  | succ n ih =>
    intro φ L l1 l2 l3 g0 g1 g2 g3 hI hM b1a b1b b2a b2b b3a b3b hQ
    refine sf_48_182_v2 g0 g1 g2 g3 ?_
    have e0 := F_RideText_isTaken_182_l2_s (φ := φ) (l1 := l1) (l2 := l2) (l3 := l3) n
    have f1 := iv_at (a := 32) (k := 1) (lo := 0) (u := 8) hI (by decide +kernel)
    refine ⟨by unfold hi; omega, by unfold hi; omega, fun q1 => ?_, fun q1 => ?_⟩
    · skip
      have e1a := e0.trans (if_pos q1)
      exact hQ 0 ⟨by omega, by omega⟩ e1a
    · skip
      have e1b := e0.trans (if_neg q1)
      refine ⟨by omega, by omega, ?_⟩
      have f2 := iv_ar (a := 36) (s := 0) (t := 8) (lo := 0) (u := 2) (z := l3) hI (by decide +kernel) (by omega) (by omega)
      refine ⟨by unfold hi; omega, by unfold hi; omega, fun q4 => ?_, fun q4 => ?_⟩
      · skip
        have e4a := e1b.trans (if_pos q4)
        exact ih φ (jm_st1 L 3 (0, l3 + 1)) l1 l2 (l3 + 1) (get_st1 g0 (by decide) (fun q => absurd q.1 (by decide))) (get_st1 g1 (by decide) (fun q => absurd q.1 (by decide))) (get_st1 g2 (by decide) (fun q => tg0 q.2)) get_st1e hI (by omega) (by omega) (by omega) (by omega) (by omega) (by omega) (by omega) (fun rr hpχ hEχ => hQ rr hpχ (e4a.trans hEχ))
      · skip
        have e4b := e1b.trans (if_neg q4)
        refine ⟨by omega, by omega, ?_⟩
        have f3 := hr_n (φ 44 ((l3).toNat))
        refine ⟨by unfold hi; omega, fun q6 => ?_, fun q6 => ?_⟩
        · skip
          have e6a := e4b.trans (if_pos q6)
          exact ih φ (jm_st1 L 3 (0, l3 + 1)) l1 l2 (l3 + 1) (get_st1 g0 (by decide) (fun q => absurd q.1 (by decide))) (get_st1 g1 (by decide) (fun q => absurd q.1 (by decide))) (get_st1 g2 (by decide) (fun q => tg0 q.2)) get_st1e hI (by omega) (by omega) (by omega) (by omega) (by omega) (by omega) (by omega) (fun rr hpχ hEχ => hQ rr hpχ (e6a.trans hEχ))
        · skip
          have e6b := e4b.trans (if_neg q6)
          exact hQ 1 ⟨by omega, by omega⟩ e6b
theorem sf_48_182_v {sc : List Int} {d : Nat} {φ : hf_F} {x : Nat} {Q : Option jm_V → hf_F → Nat → Prop} {v1 v2 : Int}
    (H : hw sc d 48 2 (jm_st1 [(0, (2, 182)), (1, (0, v1)), (2, (0, v2))] 3 (0, 0)) [] φ x Q) :
    hw sc d 48 0 [(0, (2, 182)), (1, (0, v1)), (2, (0, v2))] [] φ x Q := by
  refine hw_k (c := 0) (b := 0) (e := 1) (by decide +kernel) ?_
  refine hw_st (L' := (jm_st1 [(0, (2, 182)), (1, (0, v1)), (2, (0, v2))] 3 (0, 0))) (b := 3) (e := 0) (by decide +kernel) rfl ?_
  exact H
theorem sf_48_182 {sc : List Int} {d : Nat} {φ : hf_F} {x : Nat} {Q : Option jm_V → hf_F → Nat → Prop} {v1 v2 : Int} (hI : Inv φ) (h1a : 0 ≤ v1) (h1b : v1 ≤ 2) (h2a : 0 ≤ v2) (h2b : v2 ≤ 29) (hQ : ∀ (r : Int), 0 ≤ r ∧ r ≤ 1 → F_RideText_isTaken_182 φ v1 v2 = r → Q (some (0, r)) φ x) : hw sc d 48 0 [(0, (2, 182)), (1, (0, v1)), (2, (0, v2))] [] φ x Q := by
  apply sf_48_182_v
  have e0 : F_RideText_isTaken_182 φ v1 v2 = _ := rfl
  exact sf_48_182_l2 ((8 - 0 : Int).toNat + 1) φ (jm_st1 [(0, (2, 182)), (1, (0, v1)), (2, (0, v2))] 3 (0, 0)) v1 v2 0 (get_st1 rfl (by decide) (fun q => absurd q.1 (by decide))) (get_st1 rfl (by decide) (fun q => absurd q.1 (by decide))) (get_st1 rfl (by decide) (fun q => tg0 q.2)) get_st1e hI (by omega) (by omega) (by omega) (by omega) (by omega) (by omega) (by omega) (fun rr hpχ hEχ => hQ rr hpχ (e0.trans hEχ))
theorem sf_109_187_v {sc : List Int} {d : Nat} {φ : hf_F} {x : Nat} {Q : Option jm_V → hf_F → Nat → Prop} {v1 : Int}
    (H : 0 ≤ v1 ∧ v1 < 8 ∧ (0 ≤ v1 ∧ v1 < 8 ∧ (Q (some (0, hb_or (hb_shl 1 (φ 13 ((v1).toNat))) (hb_shl 1 (φ 14 ((v1).toNat))))) φ x))) :
    hw sc d 109 0 [(0, (2, 187)), (1, (0, v1))] [] φ x Q := by
  refine hw_k (c := 1) (b := 0) (e := 1) (by decide +kernel) ?_
  refine hw_ald (b := 0) (e := 0) (by decide +kernel) rfl (by decide) ?_
  refine hr_gr (w := 5) (b := 9) (e := 0) 187 rfl (by decide +kernel) ?_
  refine hr_gr (w := 13) (b := 3) (e := 7) 5 rfl (by decide +kernel) ?_
  refine hw_ld (b := 1) (e := 0) (by decide +kernel) rfl ?_
  obtain ⟨hl1, hu1, H⟩ := H
  refine hr_al (b := 0) (a0 := 0) (e := 0) (n := 8) (w := φ 13 ((v1).toNat)) 13 rfl (by decide +kernel) (by decide) hl1 hu1 rfl ?_
  refine hw_bin (w := hb_shl 1 (φ 13 ((v1).toNat))) (a0 := 0) (b := 6) (e := 0) (by decide +kernel) rfl ?_
  refine hw_k (c := 1) (b := 0) (e := 1) (by decide +kernel) ?_
  refine hw_ald (b := 0) (e := 0) (by decide +kernel) rfl (by decide) ?_
  refine hr_gr (w := 5) (b := 9) (e := 0) 187 rfl (by decide +kernel) ?_
  refine hr_gr (w := 14) (b := 3) (e := 8) 5 rfl (by decide +kernel) ?_
  refine hw_ld (b := 1) (e := 0) (by decide +kernel) rfl ?_
  obtain ⟨hl2, hu2, H⟩ := H
  refine hr_al (b := 0) (a0 := 0) (e := 0) (n := 8) (w := φ 14 ((v1).toNat)) 14 rfl (by decide +kernel) (by decide) hl2 hu2 rfl ?_
  refine hw_bin (w := hb_shl 1 (φ 14 ((v1).toNat))) (a0 := 0) (b := 6) (e := 0) (by decide +kernel) rfl ?_
  refine hw_bin (w := hb_or (hb_shl 1 (φ 13 ((v1).toNat))) (hb_shl 1 (φ 14 ((v1).toNat)))) (a0 := 0) (b := 4) (e := 0) (by decide +kernel) rfl ?_
  exact hw_ret (a0 := 0) (e := 0) (by decide +kernel) (Or.inl rfl) H
theorem sf_109_187 {sc : List Int} {d : Nat} {φ : hf_F} {x : Nat} {Q : Option jm_V → hf_F → Nat → Prop} {v1 : Int} (hI : Inv φ) (h1a : 0 ≤ v1) (h1b : v1 ≤ 7) (hQ : ∀ (r : Int), True → F_Outlook_needs_187 φ v1 = r → Q (some (0, r)) φ x) : hw sc d 109 0 [(0, (2, 187)), (1, (0, v1))] [] φ x Q := by
  apply sf_109_187_v
  have e0 : F_Outlook_needs_187 φ v1 = _ := rfl
  refine ⟨by omega, by omega, ?_⟩
  have f1 := iv_ar (a := 13) (s := 0) (t := 8) (lo := 0) (u := 7) (z := v1) hI (by decide +kernel) (by omega) (by omega)
  have f2 := hr_shl1 (φ 13 ((v1).toNat))
  have f3 := hr_shl 1 (φ 13 ((v1).toNat))
  refine ⟨by omega, by omega, ?_⟩
  have f4 := iv_ar (a := 14) (s := 0) (t := 8) (lo := 0) (u := 7) (z := v1) hI (by decide +kernel) (by omega) (by omega)
  have f5 := hr_shl1 (φ 14 ((v1).toNat))
  have f6 := hr_shl 1 (φ 14 ((v1).toNat))
  have f7 := hr_or (hb_shl 1 (φ 13 ((v1).toNat))) (hb_shl 1 (φ 14 ((v1).toNat)))
  exact hQ (hb_or (hb_shl 1 (φ 13 ((v1).toNat))) (hb_shl 1 (φ 14 ((v1).toNat)))) trivial e0
theorem sf_107_187_v4 {sc : List Int} {d : Nat} {φ : hf_F} {x : Nat} {Q : Option jm_V → hf_F → Nat → Prop} {L : jm_L} {l1 l2 l3 : Int} (g0 : jm_get L 0 = some (2, 187)) (g1 : jm_get L 1 = some (0, l1)) (g2 : jm_get L 2 = some (0, l2)) (g3 : jm_get L 3 = some (0, l3))
    (H : hi l3 ∧ hi (φ 6 3) ∧ ((φ 6 3) ≤ l3 → Q (some (0, l2)) φ x) ∧ (¬ (φ 6 3) ≤ l3 → hw sc (d + 1) 108 0 [(0, (2, 17)), (1, (0, l3))] [] φ x (fun r ψ3 y3 => y3 = x ∧ φ = ψ3 ∧ (∃ z3 : Int, r = some (0, z3) ∧ (hw sc (d + 1) 109 0 [(0, (2, 187)), (1, (0, l1))] [] φ x (fun r ψ4 y4 => y4 = x ∧ φ = ψ4 ∧ (∃ z4 : Int, r = some (0, z4) ∧ (hi (hb_and z3 z4) ∧ ((hb_and z3 z4) = 0 → hw sc (d + 2) 107 4 (jm_st1 L 3 (0, l3 + 1)) [] φ x Q) ∧ (¬ (hb_and z3 z4) = 0 → hw sc (d + 2) 107 4 (jm_st1 (jm_st1 L 2 (0, hb_or l2 (hb_shl 1 l3))) 3 (0, l3 + 1)) [] φ x Q))))))))) :
    hw sc (d + 2) 107 4 L [] φ x Q := by
  refine hw_ld (b := 3) (e := 0) (by decide +kernel) g3 ?_
  refine hw_ald (b := 0) (e := 0) (by decide +kernel) g0 (by decide) ?_
  refine hr_gr (w := 5) (b := 9) (e := 0) 187 rfl (by decide +kernel) ?_
  refine hr_gr (w := 6) (b := 3) (e := 0) 5 rfl (by decide +kernel) ?_
  refine hw_k (c := 3) (b := 0) (e := 1) (by decide +kernel) ?_
  refine hr_al (b := 0) (a0 := 0) (e := 0) (n := 5) (w := φ 6 3) 6 rfl (by decide +kernel) (by decide) (by decide) (by decide) rfl ?_
  obtain ⟨hz1, hy1, ht1, hf1⟩ := H
  refine hw_if2 (a0 := 0) (b := 3) (e := 46) (by decide +kernel) hz1 hy1 (fun q => ?_) (fun q => ?_)
  · have H := ht1 q
    refine hw_ld (b := 2) (e := 0) (by decide +kernel) g2 ?_
    exact hw_ret (a0 := 0) (e := 0) (by decide +kernel) (Or.inl rfl) H
  · have H := hf1 q
    refine hw_ald (b := 0) (e := 0) (by decide +kernel) g0 (by decide) ?_
    refine hr_gr (w := 17) (b := 9) (e := 1) 187 rfl (by decide +kernel) ?_
    refine hw_ld (b := 3) (e := 0) (by decide +kernel) g3 ?_
    refine hr_call (a0 := 14) (b := 108) (e := 2) (nl := 4) (As := [(0, l3)]) (R := []) 17 rfl (by decide +kernel) rfl rfl (Nat.le_of_ble_eq_true rfl) (Nat.le_of_ble_eq_true rfl) ?_
    refine hw_mono H ?_
    rintro r ψ3 y3 ⟨hyx, hψx, z3, hr, H⟩
    subst hyx
    subst hψx
    subst hr
    refine ⟨hne0, ?_⟩
    show hw sc (d + 2) 107 25 L [(0, z3)] φ y3 Q
    refine hw_ald (b := 0) (e := 0) (by decide +kernel) g0 (by decide) ?_
    refine hw_ld (b := 1) (e := 0) (by decide +kernel) g1 ?_
    refine hr_call (a0 := 19) (b := 109) (e := 2) (nl := 2) (As := [(0, l1)]) (R := [(0, z3)]) 187 rfl (by decide +kernel) rfl rfl (Nat.le_of_ble_eq_true rfl) (Nat.le_of_ble_eq_true rfl) ?_
    refine hw_mono H ?_
    rintro r ψ4 y4 ⟨hyx, hψx, z4, hr, H⟩
    subst hyx
    subst hψx
    subst hr
    refine ⟨hne0, ?_⟩
    show hw sc (d + 2) 107 30 L [(0, z4), (0, z3)] φ y4 Q
    refine hw_bin (w := hb_and z3 z4) (a0 := 0) (b := 3) (e := 0) (by decide +kernel) rfl ?_
    obtain ⟨hz5, ht5, hf5⟩ := H
    refine hw_if (a0 := 0) (b := 0) (e := 40) (by decide +kernel) hz5 (fun q => ?_) (fun q => ?_)
    · have H := ht5 q
      refine hw_inc (L' := (jm_st1 L 3 (0, l3 + 1))) (c := 1) (b := 3) (e := 0) (by decide +kernel) g3 rfl ?_
      refine hw_goto (a0 := 0) (b := 0) (e := 4) (by decide +kernel) ?_
      exact H
    · have H := hf5 q
      refine hw_ld (b := 2) (e := 0) (by decide +kernel) g2 ?_
      refine hw_k (c := 1) (b := 0) (e := 1) (by decide +kernel) ?_
      refine hw_ld (b := 3) (e := 0) (by decide +kernel) g3 ?_
      refine hw_bin (w := hb_shl 1 l3) (a0 := 0) (b := 6) (e := 0) (by decide +kernel) rfl ?_
      refine hw_bin (w := hb_or l2 (hb_shl 1 l3)) (a0 := 0) (b := 4) (e := 0) (by decide +kernel) rfl ?_
      refine hw_st (L' := (jm_st1 L 2 (0, hb_or l2 (hb_shl 1 l3)))) (b := 2) (e := 0) (by decide +kernel) rfl ?_
      refine hw_inc (L' := (jm_st1 (jm_st1 L 2 (0, hb_or l2 (hb_shl 1 l3))) 3 (0, l3 + 1))) (c := 1) (b := 3) (e := 0) (by decide +kernel) (get_st1 g3 (by decide) (fun q => absurd q.1 (by decide))) rfl ?_
      refine hw_goto (a0 := 0) (b := 0) (e := 4) (by decide +kernel) ?_
      exact H
theorem sf_107_187_l4 {sc : List Int} {d x : Nat} {Q : Option jm_V → hf_F → Nat → Prop} : ∀ (n : Nat) (φ : hf_F) (L : jm_L) (l1 l2 l3 : Int), jm_get L 0 = some (2, 187) → jm_get L 1 = some (0, l1) → jm_get L 2 = some (0, l2) → jm_get L 3 = some (0, l3) → Inv φ → 6 - l3 < (n : Int) → 0 ≤ l1 → l1 ≤ 7 → (-2147483648 : Int) ≤ l2 → l2 ≤ 2147483647 → 0 ≤ l3 → l3 ≤ 6 → (∀ (r : Int), True → F_Outlook_ridersAble_187_l4 n φ l1 l2 l3 = r → Q (some (0, r)) φ x) → hw sc (d + 2) 107 4 L [] φ x Q := by
  intro n
  induction n with
  | zero =>
    intro φ L l1 l2 l3 g0 g1 g2 g3 hI hM b1a b1b b2a b2b b3a b3b hQ
    exfalso
    omega
  | succ n ih =>
    intro φ L l1 l2 l3 g0 g1 g2 g3 hI hM b1a b1b b2a b2b b3a b3b hQ
    refine sf_107_187_v4 g0 g1 g2 g3 ?_
    have e0 := F_Outlook_ridersAble_187_l4_s (φ := φ) (l1 := l1) (l2 := l2) (l3 := l3) n
    have f1 := iv_at (a := 6) (k := 3) (lo := 0) (u := 6) hI (by decide +kernel)
    refine ⟨by unfold hi; omega, by unfold hi; omega, fun q1 => ?_, fun q1 => ?_⟩
    · skip
      have e1a := e0.trans (if_pos q1)
      exact hQ l2 trivial e1a
    · skip
      have e1b := e0.trans (if_neg q1)
      refine sf_108_17 (φ := φ) hI (by omega) (by omega) (fun z3 hp3 hE3 => ⟨rfl, rfl, z3, rfl, ?_⟩)
      have e3 := e1b.trans (bnp_e hE3)
      refine sf_109_187 (φ := φ) hI (by omega) (by omega) (fun z4 hp4 hE4 => ⟨rfl, rfl, z4, rfl, ?_⟩)
      have e4 := e3.trans (bnp_e hE4)
      have f2 := hr_and0 z3 z4
      have f3 := hr_and z3 z4
      refine ⟨by unfold hi; omega, fun q5 => ?_, fun q5 => ?_⟩
      · skip
        have e5a := e4.trans (if_pos q5)
        exact ih φ (jm_st1 L 3 (0, l3 + 1)) l1 l2 (l3 + 1) (get_st1 g0 (by decide) (fun q => absurd q.1 (by decide))) (get_st1 g1 (by decide) (fun q => absurd q.1 (by decide))) (get_st1 g2 (by decide) (fun q => tg0 q.2)) get_st1e hI (by omega) (by omega) (by omega) (by omega) (by omega) (by omega) (by omega) (fun rr hpχ hEχ => hQ rr hpχ (e5a.trans hEχ))
      · skip
        have e5b := e4.trans (if_neg q5)
        have f4 := hr_shl1 l3
        have f5 := hr_shl 1 l3
        have f6 := hr_or l2 (hb_shl 1 l3)
        exact ih φ (jm_st1 (jm_st1 L 2 (0, hb_or l2 (hb_shl 1 l3))) 3 (0, l3 + 1)) l1 (hb_or l2 (hb_shl 1 l3)) (l3 + 1) (get_st1 (get_st1 g0 (by decide) (fun q => absurd q.1 (by decide))) (by decide) (fun q => absurd q.1 (by decide))) (get_st1 (get_st1 g1 (by decide) (fun q => tg0 q.2)) (by decide) (fun q => absurd q.1 (by decide))) (get_st1 get_st1e (by decide) (fun q => tg0 q.2)) get_st1e hI (by omega) (by omega) (by omega) (by omega) (by omega) (by omega) (by omega) (fun rr hpχ hEχ => hQ rr hpχ (e5b.trans hEχ))
theorem sf_107_187_v {sc : List Int} {d : Nat} {φ : hf_F} {x : Nat} {Q : Option jm_V → hf_F → Nat → Prop} {v1 : Int}
    (H : hw sc (d + 2) 107 4 (jm_st1 (jm_st1 [(0, (2, 187)), (1, (0, v1))] 2 (0, 0)) 3 (0, 0)) [] φ x Q) :
    hw sc (d + 2) 107 0 [(0, (2, 187)), (1, (0, v1))] [] φ x Q := by
  refine hw_k (c := 0) (b := 0) (e := 1) (by decide +kernel) ?_
  refine hw_st (L' := (jm_st1 [(0, (2, 187)), (1, (0, v1))] 2 (0, 0))) (b := 2) (e := 0) (by decide +kernel) rfl ?_
  refine hw_k (c := 0) (b := 0) (e := 1) (by decide +kernel) ?_
  refine hw_st (L' := (jm_st1 (jm_st1 [(0, (2, 187)), (1, (0, v1))] 2 (0, 0)) 3 (0, 0))) (b := 3) (e := 0) (by decide +kernel) rfl ?_
  exact H
theorem sf_107_187 {sc : List Int} {d : Nat} {φ : hf_F} {x : Nat} {Q : Option jm_V → hf_F → Nat → Prop} {v1 : Int} (hI : Inv φ) (h1a : 0 ≤ v1) (h1b : v1 ≤ 7) (hQ : ∀ (r : Int), True → F_Outlook_ridersAble_187 φ v1 = r → Q (some (0, r)) φ x) : hw sc (d + 2) 107 0 [(0, (2, 187)), (1, (0, v1))] [] φ x Q := by
  apply sf_107_187_v
  have e0 : F_Outlook_ridersAble_187 φ v1 = _ := rfl
  exact sf_107_187_l4 ((6 - 0 : Int).toNat + 1) φ (jm_st1 (jm_st1 [(0, (2, 187)), (1, (0, v1))] 2 (0, 0)) 3 (0, 0)) v1 0 0 (get_st1 (get_st1 rfl (by decide) (fun q => absurd q.1 (by decide))) (by decide) (fun q => absurd q.1 (by decide))) (get_st1 (get_st1 rfl (by decide) (fun q => tg0 q.2)) (by decide) (fun q => absurd q.1 (by decide))) (get_st1 get_st1e (by decide) (fun q => tg0 q.2)) get_st1e hI (by omega) (by omega) (by omega) (by omega) (by omega) (by omega) (by omega) (fun rr hpχ hEχ => hQ rr hpχ (e0.trans hEχ))
theorem sf_164_187_v4 {sc : List Int} {d : Nat} {φ : hf_F} {x : Nat} {Q : Option jm_V → hf_F → Nat → Prop} {L : jm_L} {l1 l2 l3 : Int} (g0 : jm_get L 0 = some (2, 187)) (g1 : jm_get L 1 = some (0, l1)) (g2 : jm_get L 2 = some (0, l2)) (g3 : jm_get L 3 = some (0, l3))
    (H : hi l3 ∧ hi (φ 6 3) ∧ ((φ 6 3) ≤ l3 → Q (some (0, l2)) φ x) ∧ (¬ (φ 6 3) ≤ l3 → hi (hb_and (hb_shr l1 l3) 1) ∧ ((hb_and (hb_shr l1 l3) 1) = 0 → hw sc (d + 2) 164 4 (jm_st1 L 3 (0, l3 + 1)) [] φ x Q) ∧ (¬ (hb_and (hb_shr l1 l3) 1) = 0 → hw sc (d + 1) 108 0 [(0, (2, 17)), (1, (0, l3))] [] φ x (fun r ψ4 y4 => y4 = x ∧ φ = ψ4 ∧ (∃ z4 : Int, r = some (0, z4) ∧ (hw sc (d + 2) 164 4 (jm_st1 (jm_st1 L 2 (0, hb_or l2 z4)) 3 (0, l3 + 1)) [] φ x Q)))))) :
    hw sc (d + 2) 164 4 L [] φ x Q := by
  refine hw_ld (b := 3) (e := 0) (by decide +kernel) g3 ?_
  refine hw_ald (b := 0) (e := 0) (by decide +kernel) g0 (by decide) ?_
  refine hr_gr (w := 5) (b := 9) (e := 0) 187 rfl (by decide +kernel) ?_
  refine hr_gr (w := 6) (b := 3) (e := 0) 5 rfl (by decide +kernel) ?_
  refine hw_k (c := 3) (b := 0) (e := 1) (by decide +kernel) ?_
  refine hr_al (b := 0) (a0 := 0) (e := 0) (n := 5) (w := φ 6 3) 6 rfl (by decide +kernel) (by decide) (by decide) (by decide) rfl ?_
  obtain ⟨hz1, hy1, ht1, hf1⟩ := H
  refine hw_if2 (a0 := 0) (b := 3) (e := 42) (by decide +kernel) hz1 hy1 (fun q => ?_) (fun q => ?_)
  · have H := ht1 q
    refine hw_ld (b := 2) (e := 0) (by decide +kernel) g2 ?_
    exact hw_ret (a0 := 0) (e := 0) (by decide +kernel) (Or.inl rfl) H
  · have H := hf1 q
    refine hw_ld (b := 1) (e := 0) (by decide +kernel) g1 ?_
    refine hw_ld (b := 3) (e := 0) (by decide +kernel) g3 ?_
    refine hw_bin (w := hb_shr l1 l3) (a0 := 0) (b := 7) (e := 0) (by decide +kernel) rfl ?_
    refine hw_k (c := 1) (b := 0) (e := 1) (by decide +kernel) ?_
    refine hw_bin (w := hb_and (hb_shr l1 l3) 1) (a0 := 0) (b := 3) (e := 0) (by decide +kernel) rfl ?_
    obtain ⟨hz3, ht3, hf3⟩ := H
    refine hw_if (a0 := 0) (b := 0) (e := 36) (by decide +kernel) hz3 (fun q => ?_) (fun q => ?_)
    · have H := ht3 q
      refine hw_inc (L' := (jm_st1 L 3 (0, l3 + 1))) (c := 1) (b := 3) (e := 0) (by decide +kernel) g3 rfl ?_
      refine hw_goto (a0 := 0) (b := 0) (e := 4) (by decide +kernel) ?_
      exact H
    · have H := hf3 q
      refine hw_ld (b := 2) (e := 0) (by decide +kernel) g2 ?_
      refine hw_ald (b := 0) (e := 0) (by decide +kernel) g0 (by decide) ?_
      refine hr_gr (w := 17) (b := 9) (e := 1) 187 rfl (by decide +kernel) ?_
      refine hw_ld (b := 3) (e := 0) (by decide +kernel) g3 ?_
      refine hr_call (a0 := 14) (b := 108) (e := 2) (nl := 4) (As := [(0, l3)]) (R := [(0, l2)]) 17 rfl (by decide +kernel) rfl rfl (Nat.le_of_ble_eq_true rfl) (Nat.le_of_ble_eq_true rfl) ?_
      refine hw_mono H ?_
      rintro r ψ4 y4 ⟨hyx, hψx, z4, hr, H⟩
      subst hyx
      subst hψx
      subst hr
      refine ⟨hne0, ?_⟩
      show hw sc (d + 2) 164 34 L [(0, z4), (0, l2)] φ y4 Q
      refine hw_bin (w := hb_or l2 z4) (a0 := 0) (b := 4) (e := 0) (by decide +kernel) rfl ?_
      refine hw_st (L' := (jm_st1 L 2 (0, hb_or l2 z4))) (b := 2) (e := 0) (by decide +kernel) rfl ?_
      refine hw_inc (L' := (jm_st1 (jm_st1 L 2 (0, hb_or l2 z4)) 3 (0, l3 + 1))) (c := 1) (b := 3) (e := 0) (by decide +kernel) (get_st1 g3 (by decide) (fun q => absurd q.1 (by decide))) rfl ?_
      refine hw_goto (a0 := 0) (b := 0) (e := 4) (by decide +kernel) ?_
      exact H
theorem sf_164_187_l4 {sc : List Int} {d x : Nat} {Q : Option jm_V → hf_F → Nat → Prop} : ∀ (n : Nat) (φ : hf_F) (L : jm_L) (l1 l2 l3 : Int), jm_get L 0 = some (2, 187) → jm_get L 1 = some (0, l1) → jm_get L 2 = some (0, l2) → jm_get L 3 = some (0, l3) → Inv φ → 6 - l3 < (n : Int) → (-2147483648 : Int) ≤ l1 → l1 ≤ 2147483647 → (-2147483648 : Int) ≤ l2 → l2 ≤ 2147483647 → 0 ≤ l3 → l3 ≤ 6 → (∀ (r : Int), True → F_Outlook_knownTo_187_l4 n φ l1 l2 l3 = r → Q (some (0, r)) φ x) → hw sc (d + 2) 164 4 L [] φ x Q := by
  intro n
  induction n with
  | zero =>
    intro φ L l1 l2 l3 g0 g1 g2 g3 hI hM b1a b1b b2a b2b b3a b3b hQ
    exfalso
    omega
  | succ n ih =>
    intro φ L l1 l2 l3 g0 g1 g2 g3 hI hM b1a b1b b2a b2b b3a b3b hQ
    refine sf_164_187_v4 g0 g1 g2 g3 ?_
    have e0 := F_Outlook_knownTo_187_l4_s (φ := φ) (l1 := l1) (l2 := l2) (l3 := l3) n
    have f1 := iv_at (a := 6) (k := 3) (lo := 0) (u := 6) hI (by decide +kernel)
    refine ⟨by unfold hi; omega, by unfold hi; omega, fun q1 => ?_, fun q1 => ?_⟩
    · skip
      have e1a := e0.trans (if_pos q1)
      exact hQ l2 trivial e1a
    · skip
      have e1b := e0.trans (if_neg q1)
      have f2 := hr_shr0 l1 l3
      have f3 := hr_shr l1 l3
      have f4 := hr_and0 (hb_shr l1 l3) 1
      have f5 := hr_and1 (hb_shr l1 l3)
      have f6 := hr_and (hb_shr l1 l3) 1
      refine ⟨by unfold hi; omega, fun q3 => ?_, fun q3 => ?_⟩
      · skip
        have e3a := e1b.trans (if_pos q3)
        exact ih φ (jm_st1 L 3 (0, l3 + 1)) l1 l2 (l3 + 1) (get_st1 g0 (by decide) (fun q => absurd q.1 (by decide))) (get_st1 g1 (by decide) (fun q => absurd q.1 (by decide))) (get_st1 g2 (by decide) (fun q => tg0 q.2)) get_st1e hI (by omega) (by omega) (by omega) (by omega) (by omega) (by omega) (by omega) (fun rr hpχ hEχ => hQ rr hpχ (e3a.trans hEχ))
      · skip
        have e3b := e1b.trans (if_neg q3)
        refine sf_108_17 (φ := φ) hI (by omega) (by omega) (fun z4 hp4 hE4 => ⟨rfl, rfl, z4, rfl, ?_⟩)
        have e4 := e3b.trans (bnp_e hE4)
        have f7 := hr_or l2 z4
        exact ih φ (jm_st1 (jm_st1 L 2 (0, hb_or l2 z4)) 3 (0, l3 + 1)) l1 (hb_or l2 z4) (l3 + 1) (get_st1 (get_st1 g0 (by decide) (fun q => absurd q.1 (by decide))) (by decide) (fun q => absurd q.1 (by decide))) (get_st1 (get_st1 g1 (by decide) (fun q => tg0 q.2)) (by decide) (fun q => absurd q.1 (by decide))) (get_st1 get_st1e (by decide) (fun q => tg0 q.2)) get_st1e hI (by omega) (by omega) (by omega) (by omega) (by omega) (by omega) (by omega) (fun rr hpχ hEχ => hQ rr hpχ (e4.trans hEχ))
theorem sf_164_187_v {sc : List Int} {d : Nat} {φ : hf_F} {x : Nat} {Q : Option jm_V → hf_F → Nat → Prop} {v1 : Int}
    (H : hw sc (d + 2) 164 4 (jm_st1 (jm_st1 [(0, (2, 187)), (1, (0, v1))] 2 (0, 0)) 3 (0, 0)) [] φ x Q) :
    hw sc (d + 2) 164 0 [(0, (2, 187)), (1, (0, v1))] [] φ x Q := by
  refine hw_k (c := 0) (b := 0) (e := 1) (by decide +kernel) ?_
  refine hw_st (L' := (jm_st1 [(0, (2, 187)), (1, (0, v1))] 2 (0, 0))) (b := 2) (e := 0) (by decide +kernel) rfl ?_
  refine hw_k (c := 0) (b := 0) (e := 1) (by decide +kernel) ?_
  refine hw_st (L' := (jm_st1 (jm_st1 [(0, (2, 187)), (1, (0, v1))] 2 (0, 0)) 3 (0, 0))) (b := 3) (e := 0) (by decide +kernel) rfl ?_
  exact H
theorem sf_164_187 {sc : List Int} {d : Nat} {φ : hf_F} {x : Nat} {Q : Option jm_V → hf_F → Nat → Prop} {v1 : Int} (hI : Inv φ) (h1a : (-2147483648 : Int) ≤ v1) (h1b : v1 ≤ 2147483647) (hQ : ∀ (r : Int), True → F_Outlook_knownTo_187 φ v1 = r → Q (some (0, r)) φ x) : hw sc (d + 2) 164 0 [(0, (2, 187)), (1, (0, v1))] [] φ x Q := by
  apply sf_164_187_v
  have e0 : F_Outlook_knownTo_187 φ v1 = _ := rfl
  exact sf_164_187_l4 ((6 - 0 : Int).toNat + 1) φ (jm_st1 (jm_st1 [(0, (2, 187)), (1, (0, v1))] 2 (0, 0)) 3 (0, 0)) v1 0 0 (get_st1 (get_st1 rfl (by decide) (fun q => absurd q.1 (by decide))) (by decide) (fun q => absurd q.1 (by decide))) (get_st1 (get_st1 rfl (by decide) (fun q => tg0 q.2)) (by decide) (fun q => absurd q.1 (by decide))) (get_st1 get_st1e (by decide) (fun q => tg0 q.2)) get_st1e hI (by omega) (by omega) (by omega) (by omega) (by omega) (by omega) (by omega) (fun rr hpχ hEχ => hQ rr hpχ (e0.trans hEχ))
theorem sf_113_187_v2 {sc : List Int} {d : Nat} {φ : hf_F} {x : Nat} {Q : Option jm_V → hf_F → Nat → Prop} {L : jm_L} {l1 l2 : Int} (g0 : jm_get L 0 = some (2, 187)) (g1 : jm_get L 1 = some (0, l1)) (g2 : jm_get L 2 = some (0, l2))
    (H : hi l2 ∧ hi (φ 6 4) ∧ ((φ 6 4) ≤ l2 → Q (some (0, 1)) φ x) ∧ (¬ (φ 6 4) ≤ l2 → hi (hb_and (hb_shr l1 l2) 1) ∧ ((hb_and (hb_shr l1 l2) 1) = 0 → hw sc d 113 2 (jm_st1 L 2 (0, l2 + 1)) [] φ x Q) ∧ (¬ (hb_and (hb_shr l1 l2) 1) = 0 → 0 ≤ l2 ∧ l2 < 8 ∧ (hi (hb_and (φ 15 ((l2).toNat)) l1) ∧ ((hb_and (φ 15 ((l2).toNat)) l1) = 0 → hw sc d 113 2 (jm_st1 L 2 (0, l2 + 1)) [] φ x Q) ∧ (¬ (hb_and (φ 15 ((l2).toNat)) l1) = 0 → Q (some (0, 0)) φ x))))) :
    hw sc d 113 2 L [] φ x Q := by
  refine hw_ld (b := 2) (e := 0) (by decide +kernel) g2 ?_
  refine hw_ald (b := 0) (e := 0) (by decide +kernel) g0 (by decide) ?_
  refine hr_gr (w := 5) (b := 9) (e := 0) 187 rfl (by decide +kernel) ?_
  refine hr_gr (w := 6) (b := 3) (e := 0) 5 rfl (by decide +kernel) ?_
  refine hw_k (c := 4) (b := 0) (e := 1) (by decide +kernel) ?_
  refine hr_al (b := 0) (a0 := 0) (e := 0) (n := 5) (w := φ 6 4) 6 rfl (by decide +kernel) (by decide) (by decide) (by decide) rfl ?_
  obtain ⟨hz1, hy1, ht1, hf1⟩ := H
  refine hw_if2 (a0 := 0) (b := 3) (e := 45) (by decide +kernel) hz1 hy1 (fun q => ?_) (fun q => ?_)
  · have H := ht1 q
    refine hw_k (c := 1) (b := 0) (e := 1) (by decide +kernel) ?_
    exact hw_ret (a0 := 0) (e := 1) (by decide +kernel) (Or.inr ⟨rfl, by decide⟩) H
  · have H := hf1 q
    refine hw_ld (b := 1) (e := 0) (by decide +kernel) g1 ?_
    refine hw_ld (b := 2) (e := 0) (by decide +kernel) g2 ?_
    refine hw_bin (w := hb_shr l1 l2) (a0 := 0) (b := 7) (e := 0) (by decide +kernel) rfl ?_
    refine hw_k (c := 1) (b := 0) (e := 1) (by decide +kernel) ?_
    refine hw_bin (w := hb_and (hb_shr l1 l2) 1) (a0 := 0) (b := 3) (e := 0) (by decide +kernel) rfl ?_
    obtain ⟨hz3, ht3, hf3⟩ := H
    refine hw_if (a0 := 0) (b := 0) (e := 39) (by decide +kernel) hz3 (fun q => ?_) (fun q => ?_)
    · have H := ht3 q
      refine hw_inc (L' := (jm_st1 L 2 (0, l2 + 1))) (c := 1) (b := 2) (e := 0) (by decide +kernel) g2 rfl ?_
      refine hw_goto (a0 := 0) (b := 0) (e := 2) (by decide +kernel) ?_
      exact H
    · have H := hf3 q
      refine hw_ald (b := 0) (e := 0) (by decide +kernel) g0 (by decide) ?_
      refine hr_gr (w := 5) (b := 9) (e := 0) 187 rfl (by decide +kernel) ?_
      refine hr_gr (w := 15) (b := 3) (e := 9) 5 rfl (by decide +kernel) ?_
      refine hw_ld (b := 2) (e := 0) (by decide +kernel) g2 ?_
      obtain ⟨hl4, hu4, H⟩ := H
      refine hr_al (b := 0) (a0 := 0) (e := 0) (n := 8) (w := φ 15 ((l2).toNat)) 15 rfl (by decide +kernel) (by decide) hl4 hu4 rfl ?_
      refine hw_ld (b := 1) (e := 0) (by decide +kernel) g1 ?_
      refine hw_bin (w := hb_and (φ 15 ((l2).toNat)) l1) (a0 := 0) (b := 3) (e := 0) (by decide +kernel) rfl ?_
      obtain ⟨hz5, ht5, hf5⟩ := H
      refine hw_if (a0 := 0) (b := 0) (e := 39) (by decide +kernel) hz5 (fun q => ?_) (fun q => ?_)
      · have H := ht5 q
        refine hw_inc (L' := (jm_st1 L 2 (0, l2 + 1))) (c := 1) (b := 2) (e := 0) (by decide +kernel) g2 rfl ?_
        refine hw_goto (a0 := 0) (b := 0) (e := 2) (by decide +kernel) ?_
        exact H
      · have H := hf5 q
        refine hw_k (c := 0) (b := 0) (e := 1) (by decide +kernel) ?_
        exact hw_ret (a0 := 0) (e := 1) (by decide +kernel) (Or.inr ⟨rfl, by decide⟩) H
theorem sf_113_187_l2 {sc : List Int} {d x : Nat} {Q : Option jm_V → hf_F → Nat → Prop} : ∀ (n : Nat) (φ : hf_F) (L : jm_L) (l1 l2 : Int), jm_get L 0 = some (2, 187) → jm_get L 1 = some (0, l1) → jm_get L 2 = some (0, l2) → Inv φ → 8 - l2 < (n : Int) → (-2147483648 : Int) ≤ l1 → l1 ≤ 2147483647 → 0 ≤ l2 → l2 ≤ 8 → (∀ (r : Int), 0 ≤ r ∧ r ≤ 1 → F_Outlook_isPeaceful_187_l2 n φ l1 l2 = r → Q (some (0, r)) φ x) → hw sc d 113 2 L [] φ x Q := by
  intro n
  induction n with
  | zero =>
    intro φ L l1 l2 g0 g1 g2 hI hM b1a b1b b2a b2b hQ
    exfalso
    omega
  | succ n ih =>
    intro φ L l1 l2 g0 g1 g2 hI hM b1a b1b b2a b2b hQ
    refine sf_113_187_v2 g0 g1 g2 ?_
    have e0 := F_Outlook_isPeaceful_187_l2_s (φ := φ) (l1 := l1) (l2 := l2) n
    have f1 := iv_at (a := 6) (k := 4) (lo := 0) (u := 8) hI (by decide +kernel)
    refine ⟨by unfold hi; omega, by unfold hi; omega, fun q1 => ?_, fun q1 => ?_⟩
    · skip
      have e1a := e0.trans (if_pos q1)
      exact hQ 1 ⟨by omega, by omega⟩ e1a
    · skip
      have e1b := e0.trans (if_neg q1)
      have f2 := hr_shr0 l1 l2
      have f3 := hr_shr l1 l2
      have f4 := hr_and0 (hb_shr l1 l2) 1
      have f5 := hr_and1 (hb_shr l1 l2)
      have f6 := hr_and (hb_shr l1 l2) 1
      refine ⟨by unfold hi; omega, fun q3 => ?_, fun q3 => ?_⟩
      · skip
        have e3a := e1b.trans (if_pos q3)
        exact ih φ (jm_st1 L 2 (0, l2 + 1)) l1 (l2 + 1) (get_st1 g0 (by decide) (fun q => absurd q.1 (by decide))) (get_st1 g1 (by decide) (fun q => tg0 q.2)) get_st1e hI (by omega) (by omega) (by omega) (by omega) (by omega) (fun rr hpχ hEχ => hQ rr hpχ (e3a.trans hEχ))
      · skip
        have e3b := e1b.trans (if_neg q3)
        refine ⟨by omega, by omega, ?_⟩
        have f7 := iv_ar (a := 15) (s := 0) (t := 8) (lo := (-2147483648 : Int)) (u := 2147483647) (z := l2) hI (by decide +kernel) (by omega) (by omega)
        have f8 := hr_and0 (φ 15 ((l2).toNat)) l1
        have f9 := hr_and (φ 15 ((l2).toNat)) l1
        refine ⟨by unfold hi; omega, fun q5 => ?_, fun q5 => ?_⟩
        · skip
          have e5a := e3b.trans (if_pos q5)
          exact ih φ (jm_st1 L 2 (0, l2 + 1)) l1 (l2 + 1) (get_st1 g0 (by decide) (fun q => absurd q.1 (by decide))) (get_st1 g1 (by decide) (fun q => tg0 q.2)) get_st1e hI (by omega) (by omega) (by omega) (by omega) (by omega) (fun rr hpχ hEχ => hQ rr hpχ (e5a.trans hEχ))
        · skip
          have e5b := e3b.trans (if_neg q5)
          exact hQ 0 ⟨by omega, by omega⟩ e5b
theorem sf_113_187_v {sc : List Int} {d : Nat} {φ : hf_F} {x : Nat} {Q : Option jm_V → hf_F → Nat → Prop} {v1 : Int}
    (H : hw sc d 113 2 (jm_st1 [(0, (2, 187)), (1, (0, v1))] 2 (0, 0)) [] φ x Q) :
    hw sc d 113 0 [(0, (2, 187)), (1, (0, v1))] [] φ x Q := by
  refine hw_k (c := 0) (b := 0) (e := 1) (by decide +kernel) ?_
  refine hw_st (L' := (jm_st1 [(0, (2, 187)), (1, (0, v1))] 2 (0, 0))) (b := 2) (e := 0) (by decide +kernel) rfl ?_
  exact H
theorem sf_113_187 {sc : List Int} {d : Nat} {φ : hf_F} {x : Nat} {Q : Option jm_V → hf_F → Nat → Prop} {v1 : Int} (hI : Inv φ) (h1a : (-2147483648 : Int) ≤ v1) (h1b : v1 ≤ 2147483647) (hQ : ∀ (r : Int), 0 ≤ r ∧ r ≤ 1 → F_Outlook_isPeaceful_187 φ v1 = r → Q (some (0, r)) φ x) : hw sc d 113 0 [(0, (2, 187)), (1, (0, v1))] [] φ x Q := by
  apply sf_113_187_v
  have e0 : F_Outlook_isPeaceful_187 φ v1 = _ := rfl
  exact sf_113_187_l2 ((8 - 0 : Int).toNat + 1) φ (jm_st1 [(0, (2, 187)), (1, (0, v1))] 2 (0, 0)) v1 0 (get_st1 rfl (by decide) (fun q => absurd q.1 (by decide))) (get_st1 rfl (by decide) (fun q => tg0 q.2)) get_st1e hI (by omega) (by omega) (by omega) (by omega) (by omega) (fun rr hpχ hEχ => hQ rr hpχ (e0.trans hEχ))
theorem sf_45_31_k1_4_v {sc : List Int} {d : Nat} {φ : hf_F} {x : Nat} {Q : Option jm_V → hf_F → Nat → Prop} {v2 : Int}
    (H : 0 ≤ (32 + (φ 32 4)) ∧ (32 + (φ 32 4)) < 40 ∧ (Q (some (0, φ 32 4)) (hf_up (hf_up φ 33 ((32 + (φ 32 4)).toNat) v2) 32 4 ((φ 32 4) + 1)) x)) :
    hw sc d 45 0 [(0, (2, 31)), (1, (0, 4)), (2, (1, v2))] [] φ x Q := by
  refine hw_ald (b := 0) (e := 0) (by decide +kernel) rfl (by decide) ?_
  refine hr_gr (w := 32) (b := 3) (e := 0) 31 rfl (by decide +kernel) ?_
  refine hw_ld (b := 1) (e := 0) (by decide +kernel) rfl ?_
  refine hr_al (b := 0) (a0 := 0) (e := 0) (n := 5) (w := φ 32 4) 32 rfl (by decide +kernel) (by decide) (by decide) (by decide) rfl ?_
  refine hw_st (L' := (jm_st1 [(0, (2, 31)), (1, (0, 4)), (2, (1, v2))] 4 (0, φ 32 4))) (b := 4) (e := 1) (by decide +kernel) rfl ?_
  refine hw_ald (b := 0) (e := 0) (by decide +kernel) (get_st1 rfl (by decide) (fun q => absurd q.1 (by decide))) (by decide) ?_
  refine hr_gr (w := 33) (b := 3) (e := 1) 31 rfl (by decide +kernel) ?_
  refine hw_ld (b := 1) (e := 0) (by decide +kernel) (get_st1 rfl (by decide) (fun q => absurd q.1 (by decide))) ?_
  refine hw_k (c := 8) (b := 1) (e := 2) (by decide +kernel) ?_
  refine hw_bin (w := 32) (a0 := 0) (b := 2) (e := 0) (by decide +kernel) rfl ?_
  refine hw_ld (b := 4) (e := 1) (by decide +kernel) get_st1e ?_
  refine hw_bin (w := 32 + (φ 32 4)) (a0 := 0) (b := 0) (e := 0) (by decide +kernel) rfl ?_
  refine hw_lld (b := 2) (e := 0) (by decide +kernel) (get_st1 rfl (by decide) (fun q => absurd q.1 (by decide))) ?_
  obtain ⟨hl1, hu1, H⟩ := H
  refine hr_asl (a0 := 0) (e := 4) (n := 40) 33 rfl (by decide +kernel) hl1 hu1 ?_
  refine hw_ald (b := 0) (e := 0) (by decide +kernel) (get_st1 rfl (by decide) (fun q => absurd q.1 (by decide))) (by decide) ?_
  refine hr_gr (w := 32) (b := 3) (e := 0) 31 rfl (by decide +kernel) ?_
  refine hw_ld (b := 1) (e := 0) (by decide +kernel) (get_st1 rfl (by decide) (fun q => absurd q.1 (by decide))) ?_
  refine hw_dup2 (a0 := 0) (e := 0) (by decide +kernel) (by decide) (by decide) ?_
  refine hr_al (b := 0) (a0 := 0) (e := 0) (n := 5) (w := φ 32 4) 32 rfl (by decide +kernel) (by decide) (by decide) (by decide) (hf_up_ne (fun q => absurd q.1 (by decide))) ?_
  refine hw_k (c := 1) (b := 0) (e := 1) (by decide +kernel) ?_
  refine hw_bin (w := (φ 32 4) + 1) (a0 := 0) (b := 0) (e := 0) (by decide +kernel) rfl ?_
  refine hr_as (a0 := 0) (e := 4) (n := 5) 32 rfl (by decide +kernel) (by decide) (by decide) ?_
  refine hw_ld (b := 4) (e := 1) (by decide +kernel) get_st1e ?_
  exact hw_ret (a0 := 0) (e := 0) (by decide +kernel) (Or.inl rfl) H
theorem sf_45_31_k1_4 {sc : List Int} {d : Nat} {φ : hf_F} {x : Nat} {Q : Option jm_V → hf_F → Nat → Prop} {v2 : Int} (hI : Inv φ) (hx0 : 0 ≤ φ 32 4 ∧ φ 32 4 ≤ 7) (hQ : ∀ (r : Int) (ψ : hf_F), Inv ψ → Fr [32, 33] φ ψ → 0 ≤ r ∧ r ≤ 7 ∧ r ≤ 7 → F_Plan_addNamed_31_k1_4 φ v2 = (r, ψ) → Q (some (0, r)) ψ x) : hw sc d 45 0 [(0, (2, 31)), (1, (0, 4)), (2, (1, v2))] [] φ x Q := by
  apply sf_45_31_k1_4_v
  have e0 : F_Plan_addNamed_31_k1_4 φ v2 = _ := rfl
  have f1 := iv_at (a := 32) (k := 4) (lo := 0) (u := 8) hI (by decide +kernel)
  refine ⟨by omega, by omega, ?_⟩
  have i2 : Inv (hf_up φ 33 ((32 + (φ 32 4)).toNat) v2) := iv_upIn hI (by decide) (by decide +kernel)
  have r2 : Fr [32, 33] φ (hf_up φ 33 ((32 + (φ 32 4)).toNat) v2) := fr_upa (fr_rf) (by decide)
  have i3 : Inv (hf_up (hf_up φ 33 ((32 + (φ 32 4)).toNat) v2) 32 4 ((φ 32 4) + 1)) := iv_up (lo := 0) (u := 8) i2 (by decide +kernel) (by omega) (by omega)
  have r3 : Fr [32, 33] φ (hf_up (hf_up φ 33 ((32 + (φ 32 4)).toNat) v2) 32 4 ((φ 32 4) + 1)) := fr_upa r2 (by decide)
  exact hQ (φ 32 4) (hf_up (hf_up φ 33 ((32 + (φ 32 4)).toNat) v2) 32 4 ((φ 32 4) + 1)) i3 r3 ⟨by omega, by omega, by omega⟩ e0
theorem sf_57_31_v {sc : List Int} {d : Nat} {φ : hf_F} {x : Nat} {Q : Option jm_V → hf_F → Nat → Prop} {v1 v3 v4 : Int}
    (H : hw sc d 45 0 [(0, (2, 31)), (1, (0, 4)), (2, (1, v1))] [] φ x (fun r ψ1 y1 => y1 = x ∧ (∃ z1 : Int, r = some (0, z1) ∧ (0 ≤ z1 ∧ z1 < 8 ∧ (0 ≤ z1 ∧ z1 < 8 ∧ (0 ≤ ((v3 * 8) + v4) ∧ ((v3 * 8) + v4) < 64 ∧ (Q none (hf_up (hf_up (hf_up ψ1 39 ((z1).toNat) v3) 40 ((z1).toNat) v4) 42 (((v3 * 8) + v4).toNat) z1) x))))))) :
    hw sc (d + 1) 57 0 [(0, (2, 31)), (1, (1, v1)), (3, (0, v3)), (4, (0, v4))] [] φ x Q := by
  refine hw_ald (b := 0) (e := 0) (by decide +kernel) rfl (by decide) ?_
  refine hw_k (c := 4) (b := 0) (e := 1) (by decide +kernel) ?_
  refine hw_lld (b := 1) (e := 0) (by decide +kernel) rfl ?_
  refine hr_call (a0 := 13) (b := 45) (e := 3) (nl := 5) (As := [(0, 4), (1, v1)]) (R := []) 31 rfl (by decide +kernel) rfl rfl (Nat.le_of_ble_eq_true rfl) (Nat.le_of_ble_eq_true rfl) ?_
  refine hw_mono H ?_
  rintro r ψ1 y1 ⟨hyx, z1, hr, H⟩
  subst hyx
  subst hr
  refine ⟨hne0, ?_⟩
  show hw sc (d + 1) 57 6 [(0, (2, 31)), (1, (1, v1)), (3, (0, v3)), (4, (0, v4))] [(0, z1)] ψ1 y1 Q
  refine hw_st (L' := (jm_st1 [(0, (2, 31)), (1, (1, v1)), (3, (0, v3)), (4, (0, v4))] 5 (0, z1))) (b := 5) (e := 1) (by decide +kernel) rfl ?_
  refine hw_ald (b := 0) (e := 0) (by decide +kernel) (get_st1 rfl (by decide) (fun q => absurd q.1 (by decide))) (by decide) ?_
  refine hr_gr (w := 39) (b := 3) (e := 7) 31 rfl (by decide +kernel) ?_
  refine hw_ld (b := 5) (e := 1) (by decide +kernel) get_st1e ?_
  refine hw_ld (b := 3) (e := 0) (by decide +kernel) (get_st1 rfl (by decide) (fun q => absurd q.1 (by decide))) ?_
  obtain ⟨hl2, hu2, H⟩ := H
  refine hr_as (a0 := 0) (e := 4) (n := 8) 39 rfl (by decide +kernel) hl2 hu2 ?_
  refine hw_ald (b := 0) (e := 0) (by decide +kernel) (get_st1 rfl (by decide) (fun q => absurd q.1 (by decide))) (by decide) ?_
  refine hr_gr (w := 40) (b := 3) (e := 8) 31 rfl (by decide +kernel) ?_
  refine hw_ld (b := 5) (e := 1) (by decide +kernel) get_st1e ?_
  refine hw_ld (b := 4) (e := 1) (by decide +kernel) (get_st1 rfl (by decide) (fun q => tg0 q.2)) ?_
  obtain ⟨hl3, hu3, H⟩ := H
  refine hr_as (a0 := 0) (e := 4) (n := 8) 40 rfl (by decide +kernel) hl3 hu3 ?_
  refine hw_ald (b := 0) (e := 0) (by decide +kernel) (get_st1 rfl (by decide) (fun q => absurd q.1 (by decide))) (by decide) ?_
  refine hr_gr (w := 42) (b := 3) (e := 10) 31 rfl (by decide +kernel) ?_
  refine hw_ld (b := 3) (e := 0) (by decide +kernel) (get_st1 rfl (by decide) (fun q => absurd q.1 (by decide))) ?_
  refine hw_k (c := 8) (b := 1) (e := 2) (by decide +kernel) ?_
  refine hw_bin (w := v3 * 8) (a0 := 0) (b := 2) (e := 0) (by decide +kernel) rfl ?_
  refine hw_ld (b := 4) (e := 1) (by decide +kernel) (get_st1 rfl (by decide) (fun q => tg0 q.2)) ?_
  refine hw_bin (w := (v3 * 8) + v4) (a0 := 0) (b := 0) (e := 0) (by decide +kernel) rfl ?_
  refine hw_ld (b := 5) (e := 1) (by decide +kernel) get_st1e ?_
  obtain ⟨hl4, hu4, H⟩ := H
  refine hr_as (a0 := 0) (e := 4) (n := 64) 42 rfl (by decide +kernel) hl4 hu4 ?_
  exact hw_vret (a0 := 0) (e := 0) (by decide +kernel) H
theorem sf_57_31 {sc : List Int} {d : Nat} {φ : hf_F} {x : Nat} {Q : Option jm_V → hf_F → Nat → Prop} {v1 v3 v4 : Int} (hI : Inv φ) (h3a : 0 ≤ v3) (h3b : v3 ≤ 7) (h4a : 0 ≤ v4) (h4b : v4 ≤ 7) (hx0 : 0 ≤ φ 32 4 ∧ φ 32 4 ≤ 7) (hQ : ∀ ψ : hf_F, Inv ψ → Fr [32, 33, 39, 40, 42] φ ψ → F_Plan_addLaw_31 φ v1 v3 v4 = ψ → Q none ψ x) : hw sc (d + 1) 57 0 [(0, (2, 31)), (1, (1, v1)), (3, (0, v3)), (4, (0, v4))] [] φ x Q := by
  apply sf_57_31_v
  have e0 : F_Plan_addLaw_31 φ v1 v3 v4 = _ := rfl
  have f1 := iv_at (a := 32) (k := 4) (lo := 0) (u := 8) hI (by decide +kernel)
  refine sf_45_31_k1_4 (φ := φ) hI (by rw [show φ 32 4 = φ 32 4 from rfl]; constructor <;> omega) (fun z1 ψ1 hI1 hF1 hp1 hE1 => ⟨rfl, z1, rfl, ?_⟩)
  have hG1 : Fr [32, 33, 39, 40, 42] φ ψ1 := fr_tr (fr_rf) hF1 (by decide)
  have e1 := e0.trans (bnd_e hE1)
  refine ⟨by omega, by omega, ?_⟩
  have i2 : Inv (hf_up ψ1 39 ((z1).toNat) v3) := iv_upI (s := 0) (t := 8) (lo := 0) (u := 7) (z := z1) hI1 (by decide +kernel) (by omega) (by omega) (by omega) (by omega)
  have r2 : Fr [32, 33, 39, 40, 42] φ (hf_up ψ1 39 ((z1).toNat) v3) := fr_upa hG1 (by decide)
  refine ⟨by omega, by omega, ?_⟩
  have i3 : Inv (hf_up (hf_up ψ1 39 ((z1).toNat) v3) 40 ((z1).toNat) v4) := iv_upI (s := 0) (t := 8) (lo := 0) (u := 7) (z := z1) i2 (by decide +kernel) (by omega) (by omega) (by omega) (by omega)
  have r3 : Fr [32, 33, 39, 40, 42] φ (hf_up (hf_up ψ1 39 ((z1).toNat) v3) 40 ((z1).toNat) v4) := fr_upa r2 (by decide)
  refine ⟨by omega, by omega, ?_⟩
  have i4 : Inv (hf_up (hf_up (hf_up ψ1 39 ((z1).toNat) v3) 40 ((z1).toNat) v4) 42 (((v3 * 8) + v4).toNat) z1) := iv_upI (s := 0) (t := 64) (lo := (-1 : Int)) (u := 7) (z := (v3 * 8) + v4) i3 (by decide +kernel) (by omega) (by omega) (by omega) (by omega)
  have r4 : Fr [32, 33, 39, 40, 42] φ (hf_up (hf_up (hf_up ψ1 39 ((z1).toNat) v3) 40 ((z1).toNat) v4) 42 (((v3 * 8) + v4).toNat) z1) := fr_upa r3 (by decide)
  exact hQ (hf_up (hf_up (hf_up ψ1 39 ((z1).toNat) v3) 40 ((z1).toNat) v4) 42 (((v3 * 8) + v4).toNat) z1) i4 r4 e1
theorem sf_59_31_v {sc : List Int} {d : Nat} {φ : hf_F} {x : Nat} {Q : Option jm_V → hf_F → Nat → Prop} {v1 v2 : Int}
    (H : 0 ≤ v1 ∧ v1 < 8 ∧ (0 ≤ v1 ∧ v1 < 8 ∧ (0 ≤ v2 ∧ v2 < 8 ∧ (0 ≤ v2 ∧ v2 < 8 ∧ (Q none (hf_up (hf_up φ 41 ((v1).toNat) (hb_or (φ 41 ((v1).toNat)) (hb_shl 1 v2))) 41 ((v2).toNat) (hb_or ((hf_up φ 41 ((v1).toNat) (hb_or (φ 41 ((v1).toNat)) (hb_shl 1 v2))) 41 ((v2).toNat)) (hb_shl 1 v1))) x))))) :
    hw sc d 59 0 [(0, (2, 31)), (1, (0, v1)), (2, (0, v2))] [] φ x Q := by
  refine hw_ald (b := 0) (e := 0) (by decide +kernel) rfl (by decide) ?_
  refine hr_gr (w := 41) (b := 3) (e := 9) 31 rfl (by decide +kernel) ?_
  refine hw_ld (b := 1) (e := 0) (by decide +kernel) rfl ?_
  refine hw_dup2 (a0 := 0) (e := 0) (by decide +kernel) (by decide) (by decide) ?_
  obtain ⟨hl1, hu1, H⟩ := H
  refine hr_al (b := 0) (a0 := 0) (e := 0) (n := 8) (w := φ 41 ((v1).toNat)) 41 rfl (by decide +kernel) (by decide) hl1 hu1 rfl ?_
  refine hw_k (c := 1) (b := 0) (e := 1) (by decide +kernel) ?_
  refine hw_ld (b := 2) (e := 0) (by decide +kernel) rfl ?_
  refine hw_bin (w := hb_shl 1 v2) (a0 := 0) (b := 6) (e := 0) (by decide +kernel) rfl ?_
  refine hw_bin (w := hb_or (φ 41 ((v1).toNat)) (hb_shl 1 v2)) (a0 := 0) (b := 4) (e := 0) (by decide +kernel) rfl ?_
  obtain ⟨hl2, hu2, H⟩ := H
  refine hr_as (a0 := 0) (e := 4) (n := 8) 41 rfl (by decide +kernel) hl2 hu2 ?_
  refine hw_ald (b := 0) (e := 0) (by decide +kernel) rfl (by decide) ?_
  refine hr_gr (w := 41) (b := 3) (e := 9) 31 rfl (by decide +kernel) ?_
  refine hw_ld (b := 2) (e := 0) (by decide +kernel) rfl ?_
  refine hw_dup2 (a0 := 0) (e := 0) (by decide +kernel) (by decide) (by decide) ?_
  obtain ⟨hl3, hu3, H⟩ := H
  refine hr_al (b := 0) (a0 := 0) (e := 0) (n := 8) (w := (hf_up φ 41 ((v1).toNat) (hb_or (φ 41 ((v1).toNat)) (hb_shl 1 v2))) 41 ((v2).toNat)) 41 rfl (by decide +kernel) (by decide) hl3 hu3 rfl ?_
  refine hw_k (c := 1) (b := 0) (e := 1) (by decide +kernel) ?_
  refine hw_ld (b := 1) (e := 0) (by decide +kernel) rfl ?_
  refine hw_bin (w := hb_shl 1 v1) (a0 := 0) (b := 6) (e := 0) (by decide +kernel) rfl ?_
  refine hw_bin (w := hb_or ((hf_up φ 41 ((v1).toNat) (hb_or (φ 41 ((v1).toNat)) (hb_shl 1 v2))) 41 ((v2).toNat)) (hb_shl 1 v1)) (a0 := 0) (b := 4) (e := 0) (by decide +kernel) rfl ?_
  obtain ⟨hl4, hu4, H⟩ := H
  refine hr_as (a0 := 0) (e := 4) (n := 8) 41 rfl (by decide +kernel) hl4 hu4 ?_
  exact hw_vret (a0 := 0) (e := 0) (by decide +kernel) H
theorem sf_59_31 {sc : List Int} {d : Nat} {φ : hf_F} {x : Nat} {Q : Option jm_V → hf_F → Nat → Prop} {v1 v2 : Int} (hI : Inv φ) (h1a : 0 ≤ v1) (h1b : v1 ≤ 7) (h2a : 0 ≤ v2) (h2b : v2 ≤ 7) (hQ : ∀ ψ : hf_F, Inv ψ → Fr [41] φ ψ → F_Plan_addClash_31 φ v1 v2 = ψ → Q none ψ x) : hw sc d 59 0 [(0, (2, 31)), (1, (0, v1)), (2, (0, v2))] [] φ x Q := by
  apply sf_59_31_v
  have e0 : F_Plan_addClash_31 φ v1 v2 = _ := rfl
  refine ⟨by omega, by omega, ?_⟩
  have f1 := iv_ar (a := 41) (s := 0) (t := 8) (lo := (-2147483648 : Int)) (u := 2147483647) (z := v1) hI (by decide +kernel) (by omega) (by omega)
  have f2 := hr_shl1 v2
  have f3 := hr_shl 1 v2
  have f4 := hr_or (φ 41 ((v1).toNat)) (hb_shl 1 v2)
  refine ⟨by omega, by omega, ?_⟩
  have i5 : Inv (hf_up φ 41 ((v1).toNat) (hb_or (φ 41 ((v1).toNat)) (hb_shl 1 v2))) := iv_upI (s := 0) (t := 8) (lo := (-2147483648 : Int)) (u := 2147483647) (z := v1) hI (by decide +kernel) (by omega) (by omega) (by omega) (by omega)
  have r5 : Fr [41] φ (hf_up φ 41 ((v1).toNat) (hb_or (φ 41 ((v1).toNat)) (hb_shl 1 v2))) := fr_upa (fr_rf) (by decide)
  refine ⟨by omega, by omega, ?_⟩
  have f6 := iv_ar (a := 41) (s := 0) (t := 8) (lo := (-2147483648 : Int)) (u := 2147483647) (z := v2) i5 (by decide +kernel) (by omega) (by omega)
  have f7 := hr_shl1 v1
  have f8 := hr_shl 1 v1
  have f9 := hr_or ((hf_up φ 41 ((v1).toNat) (hb_or (φ 41 ((v1).toNat)) (hb_shl 1 v2))) 41 ((v2).toNat)) (hb_shl 1 v1)
  refine ⟨by omega, by omega, ?_⟩
  have i10 : Inv (hf_up (hf_up φ 41 ((v1).toNat) (hb_or (φ 41 ((v1).toNat)) (hb_shl 1 v2))) 41 ((v2).toNat) (hb_or ((hf_up φ 41 ((v1).toNat) (hb_or (φ 41 ((v1).toNat)) (hb_shl 1 v2))) 41 ((v2).toNat)) (hb_shl 1 v1))) := iv_upI (s := 0) (t := 8) (lo := (-2147483648 : Int)) (u := 2147483647) (z := v2) i5 (by decide +kernel) (by omega) (by omega) (by omega) (by omega)
  have r10 : Fr [41] φ (hf_up (hf_up φ 41 ((v1).toNat) (hb_or (φ 41 ((v1).toNat)) (hb_shl 1 v2))) 41 ((v2).toNat) (hb_or ((hf_up φ 41 ((v1).toNat) (hb_or (φ 41 ((v1).toNat)) (hb_shl 1 v2))) 41 ((v2).toNat)) (hb_shl 1 v1))) := fr_upa r5 (by decide)
  exact hQ (hf_up (hf_up φ 41 ((v1).toNat) (hb_or (φ 41 ((v1).toNat)) (hb_shl 1 v2))) 41 ((v2).toNat) (hb_or ((hf_up φ 41 ((v1).toNat) (hb_or (φ 41 ((v1).toNat)) (hb_shl 1 v2))) 41 ((v2).toNat)) (hb_shl 1 v1))) i10 r10 e0
theorem sf_65_5_83_v {sc : List Int} {d : Nat} {φ : hf_F} {x : Nat} {Q : Option jm_V → hf_F → Nat → Prop} 
    (H : Q none (hf_cp (hf_cp (hf_cp (hf_cp (hf_cp (hf_cp (hf_cp (hf_cp (hf_cp (hf_cp (hf_cp φ 84 6 5) 85 7 40) 86 8 3) 87 9 3) 88 10 8) 89 11 8) 90 12 8) 91 13 8) 92 14 8) 93 15 8) 94 16 64) x) :
    hw sc d 65 0 [(0, (2, 5)), (1, (2, 83))] [] φ x Q := by
  refine hw_ald (b := 1) (e := 0) (by decide +kernel) rfl (by decide) ?_
  refine hr_gr (w := 84) (b := 3) (e := 0) 83 rfl (by decide +kernel) ?_
  refine hw_k (c := 0) (b := 0) (e := 1) (by decide +kernel) ?_
  refine hw_ald (b := 0) (e := 0) (by decide +kernel) rfl (by decide) ?_
  refine hr_gr (w := 6) (b := 3) (e := 0) 5 rfl (by decide +kernel) ?_
  refine hw_k (c := 0) (b := 0) (e := 1) (by decide +kernel) ?_
  refine hw_k (c := 5) (b := 0) (e := 1) (by decide +kernel) ?_
  refine hr_cp (a0 := 0) (b0 := 0) (e := 0) 84 6 5 rfl rfl rfl (by decide +kernel) (Nat.le_of_ble_eq_true rfl) ?_
  refine hw_ald (b := 1) (e := 0) (by decide +kernel) rfl (by decide) ?_
  refine hr_gr (w := 85) (b := 3) (e := 1) 83 rfl (by decide +kernel) ?_
  refine hw_k (c := 0) (b := 0) (e := 1) (by decide +kernel) ?_
  refine hw_ald (b := 0) (e := 0) (by decide +kernel) rfl (by decide) ?_
  refine hr_gr (w := 7) (b := 3) (e := 1) 5 rfl (by decide +kernel) ?_
  refine hw_k (c := 0) (b := 0) (e := 1) (by decide +kernel) ?_
  refine hw_k (c := 40) (b := 1) (e := 2) (by decide +kernel) ?_
  refine hr_cp (a0 := 0) (b0 := 0) (e := 0) 85 7 40 rfl rfl rfl (by decide +kernel) (Nat.le_of_ble_eq_true rfl) ?_
  refine hw_ald (b := 1) (e := 0) (by decide +kernel) rfl (by decide) ?_
  refine hr_gr (w := 86) (b := 3) (e := 2) 83 rfl (by decide +kernel) ?_
  refine hw_k (c := 0) (b := 0) (e := 1) (by decide +kernel) ?_
  refine hw_ald (b := 0) (e := 0) (by decide +kernel) rfl (by decide) ?_
  refine hr_gr (w := 8) (b := 3) (e := 2) 5 rfl (by decide +kernel) ?_
  refine hw_k (c := 0) (b := 0) (e := 1) (by decide +kernel) ?_
  refine hw_k (c := 3) (b := 0) (e := 1) (by decide +kernel) ?_
  refine hr_cp (a0 := 0) (b0 := 0) (e := 0) 86 8 3 rfl rfl rfl (by decide +kernel) (Nat.le_of_ble_eq_true rfl) ?_
  refine hw_ald (b := 1) (e := 0) (by decide +kernel) rfl (by decide) ?_
  refine hr_gr (w := 87) (b := 3) (e := 3) 83 rfl (by decide +kernel) ?_
  refine hw_k (c := 0) (b := 0) (e := 1) (by decide +kernel) ?_
  refine hw_ald (b := 0) (e := 0) (by decide +kernel) rfl (by decide) ?_
  refine hr_gr (w := 9) (b := 3) (e := 3) 5 rfl (by decide +kernel) ?_
  refine hw_k (c := 0) (b := 0) (e := 1) (by decide +kernel) ?_
  refine hw_k (c := 3) (b := 0) (e := 1) (by decide +kernel) ?_
  refine hr_cp (a0 := 0) (b0 := 0) (e := 0) 87 9 3 rfl rfl rfl (by decide +kernel) (Nat.le_of_ble_eq_true rfl) ?_
  refine hw_ald (b := 1) (e := 0) (by decide +kernel) rfl (by decide) ?_
  refine hr_gr (w := 88) (b := 3) (e := 4) 83 rfl (by decide +kernel) ?_
  refine hw_k (c := 0) (b := 0) (e := 1) (by decide +kernel) ?_
  refine hw_ald (b := 0) (e := 0) (by decide +kernel) rfl (by decide) ?_
  refine hr_gr (w := 10) (b := 3) (e := 4) 5 rfl (by decide +kernel) ?_
  refine hw_k (c := 0) (b := 0) (e := 1) (by decide +kernel) ?_
  refine hw_k (c := 8) (b := 1) (e := 2) (by decide +kernel) ?_
  refine hr_cp (a0 := 0) (b0 := 0) (e := 0) 88 10 8 rfl rfl rfl (by decide +kernel) (Nat.le_of_ble_eq_true rfl) ?_
  refine hw_ald (b := 1) (e := 0) (by decide +kernel) rfl (by decide) ?_
  refine hr_gr (w := 89) (b := 3) (e := 5) 83 rfl (by decide +kernel) ?_
  refine hw_k (c := 0) (b := 0) (e := 1) (by decide +kernel) ?_
  refine hw_ald (b := 0) (e := 0) (by decide +kernel) rfl (by decide) ?_
  refine hr_gr (w := 11) (b := 3) (e := 5) 5 rfl (by decide +kernel) ?_
  refine hw_k (c := 0) (b := 0) (e := 1) (by decide +kernel) ?_
  refine hw_k (c := 8) (b := 1) (e := 2) (by decide +kernel) ?_
  refine hr_cp (a0 := 0) (b0 := 0) (e := 0) 89 11 8 rfl rfl rfl (by decide +kernel) (Nat.le_of_ble_eq_true rfl) ?_
  refine hw_ald (b := 1) (e := 0) (by decide +kernel) rfl (by decide) ?_
  refine hr_gr (w := 90) (b := 3) (e := 6) 83 rfl (by decide +kernel) ?_
  refine hw_k (c := 0) (b := 0) (e := 1) (by decide +kernel) ?_
  refine hw_ald (b := 0) (e := 0) (by decide +kernel) rfl (by decide) ?_
  refine hr_gr (w := 12) (b := 3) (e := 6) 5 rfl (by decide +kernel) ?_
  refine hw_k (c := 0) (b := 0) (e := 1) (by decide +kernel) ?_
  refine hw_k (c := 8) (b := 1) (e := 2) (by decide +kernel) ?_
  refine hr_cp (a0 := 0) (b0 := 0) (e := 0) 90 12 8 rfl rfl rfl (by decide +kernel) (Nat.le_of_ble_eq_true rfl) ?_
  refine hw_ald (b := 1) (e := 0) (by decide +kernel) rfl (by decide) ?_
  refine hr_gr (w := 91) (b := 3) (e := 7) 83 rfl (by decide +kernel) ?_
  refine hw_k (c := 0) (b := 0) (e := 1) (by decide +kernel) ?_
  refine hw_ald (b := 0) (e := 0) (by decide +kernel) rfl (by decide) ?_
  refine hr_gr (w := 13) (b := 3) (e := 7) 5 rfl (by decide +kernel) ?_
  refine hw_k (c := 0) (b := 0) (e := 1) (by decide +kernel) ?_
  refine hw_k (c := 8) (b := 1) (e := 2) (by decide +kernel) ?_
  refine hr_cp (a0 := 0) (b0 := 0) (e := 0) 91 13 8 rfl rfl rfl (by decide +kernel) (Nat.le_of_ble_eq_true rfl) ?_
  refine hw_ald (b := 1) (e := 0) (by decide +kernel) rfl (by decide) ?_
  refine hr_gr (w := 92) (b := 3) (e := 8) 83 rfl (by decide +kernel) ?_
  refine hw_k (c := 0) (b := 0) (e := 1) (by decide +kernel) ?_
  refine hw_ald (b := 0) (e := 0) (by decide +kernel) rfl (by decide) ?_
  refine hr_gr (w := 14) (b := 3) (e := 8) 5 rfl (by decide +kernel) ?_
  refine hw_k (c := 0) (b := 0) (e := 1) (by decide +kernel) ?_
  refine hw_k (c := 8) (b := 1) (e := 2) (by decide +kernel) ?_
  refine hr_cp (a0 := 0) (b0 := 0) (e := 0) 92 14 8 rfl rfl rfl (by decide +kernel) (Nat.le_of_ble_eq_true rfl) ?_
  refine hw_ald (b := 1) (e := 0) (by decide +kernel) rfl (by decide) ?_
  refine hr_gr (w := 93) (b := 3) (e := 9) 83 rfl (by decide +kernel) ?_
  refine hw_k (c := 0) (b := 0) (e := 1) (by decide +kernel) ?_
  refine hw_ald (b := 0) (e := 0) (by decide +kernel) rfl (by decide) ?_
  refine hr_gr (w := 15) (b := 3) (e := 9) 5 rfl (by decide +kernel) ?_
  refine hw_k (c := 0) (b := 0) (e := 1) (by decide +kernel) ?_
  refine hw_k (c := 8) (b := 1) (e := 2) (by decide +kernel) ?_
  refine hr_cp (a0 := 0) (b0 := 0) (e := 0) 93 15 8 rfl rfl rfl (by decide +kernel) (Nat.le_of_ble_eq_true rfl) ?_
  refine hw_ald (b := 1) (e := 0) (by decide +kernel) rfl (by decide) ?_
  refine hr_gr (w := 94) (b := 3) (e := 10) 83 rfl (by decide +kernel) ?_
  refine hw_k (c := 0) (b := 0) (e := 1) (by decide +kernel) ?_
  refine hw_ald (b := 0) (e := 0) (by decide +kernel) rfl (by decide) ?_
  refine hr_gr (w := 16) (b := 3) (e := 10) 5 rfl (by decide +kernel) ?_
  refine hw_k (c := 0) (b := 0) (e := 1) (by decide +kernel) ?_
  refine hw_k (c := 64) (b := 1) (e := 2) (by decide +kernel) ?_
  refine hr_cp (a0 := 0) (b0 := 0) (e := 0) 94 16 64 rfl rfl rfl (by decide +kernel) (Nat.le_of_ble_eq_true rfl) ?_
  exact hw_vret (a0 := 0) (e := 0) (by decide +kernel) H
theorem sf_65_5_83 {sc : List Int} {d : Nat} {φ : hf_F} {x : Nat} {Q : Option jm_V → hf_F → Nat → Prop}  (hI : Inv φ)  (hQ : ∀ ψ : hf_F, Inv ψ → Fr [6, 7, 8, 9, 10, 11, 12, 13, 14, 15, 16] φ ψ → F_Plan_copyFrom_5_83 φ = ψ → Q none ψ x) : hw sc d 65 0 [(0, (2, 5)), (1, (2, 83))] [] φ x Q := by
  apply sf_65_5_83_v
  have e0 : F_Plan_copyFrom_5_83 φ = _ := rfl
  have i1 : Inv (hf_cp φ 84 6 5) := iv_cp hI (by decide) (by decide +kernel)
  have r1 : Fr [6, 7, 8, 9, 10, 11, 12, 13, 14, 15, 16] φ (hf_cp φ 84 6 5) := fr_cp (fr_rf) (by decide)
  have i2 : Inv (hf_cp (hf_cp φ 84 6 5) 85 7 40) := iv_cp i1 (by decide) (by decide +kernel)
  have r2 : Fr [6, 7, 8, 9, 10, 11, 12, 13, 14, 15, 16] φ (hf_cp (hf_cp φ 84 6 5) 85 7 40) := fr_cp r1 (by decide)
  have i3 : Inv (hf_cp (hf_cp (hf_cp φ 84 6 5) 85 7 40) 86 8 3) := iv_cp i2 (by decide) (by decide +kernel)
  have r3 : Fr [6, 7, 8, 9, 10, 11, 12, 13, 14, 15, 16] φ (hf_cp (hf_cp (hf_cp φ 84 6 5) 85 7 40) 86 8 3) := fr_cp r2 (by decide)
  have i4 : Inv (hf_cp (hf_cp (hf_cp (hf_cp φ 84 6 5) 85 7 40) 86 8 3) 87 9 3) := iv_cp i3 (by decide) (by decide +kernel)
  have r4 : Fr [6, 7, 8, 9, 10, 11, 12, 13, 14, 15, 16] φ (hf_cp (hf_cp (hf_cp (hf_cp φ 84 6 5) 85 7 40) 86 8 3) 87 9 3) := fr_cp r3 (by decide)
  have i5 : Inv (hf_cp (hf_cp (hf_cp (hf_cp (hf_cp φ 84 6 5) 85 7 40) 86 8 3) 87 9 3) 88 10 8) := iv_cp i4 (by decide) (by decide +kernel)
  have r5 : Fr [6, 7, 8, 9, 10, 11, 12, 13, 14, 15, 16] φ (hf_cp (hf_cp (hf_cp (hf_cp (hf_cp φ 84 6 5) 85 7 40) 86 8 3) 87 9 3) 88 10 8) := fr_cp r4 (by decide)
  have i6 : Inv (hf_cp (hf_cp (hf_cp (hf_cp (hf_cp (hf_cp φ 84 6 5) 85 7 40) 86 8 3) 87 9 3) 88 10 8) 89 11 8) := iv_cp i5 (by decide) (by decide +kernel)
  have r6 : Fr [6, 7, 8, 9, 10, 11, 12, 13, 14, 15, 16] φ (hf_cp (hf_cp (hf_cp (hf_cp (hf_cp (hf_cp φ 84 6 5) 85 7 40) 86 8 3) 87 9 3) 88 10 8) 89 11 8) := fr_cp r5 (by decide)
  have i7 : Inv (hf_cp (hf_cp (hf_cp (hf_cp (hf_cp (hf_cp (hf_cp φ 84 6 5) 85 7 40) 86 8 3) 87 9 3) 88 10 8) 89 11 8) 90 12 8) := iv_cp i6 (by decide) (by decide +kernel)
  have r7 : Fr [6, 7, 8, 9, 10, 11, 12, 13, 14, 15, 16] φ (hf_cp (hf_cp (hf_cp (hf_cp (hf_cp (hf_cp (hf_cp φ 84 6 5) 85 7 40) 86 8 3) 87 9 3) 88 10 8) 89 11 8) 90 12 8) := fr_cp r6 (by decide)
  have i8 : Inv (hf_cp (hf_cp (hf_cp (hf_cp (hf_cp (hf_cp (hf_cp (hf_cp φ 84 6 5) 85 7 40) 86 8 3) 87 9 3) 88 10 8) 89 11 8) 90 12 8) 91 13 8) := iv_cp i7 (by decide) (by decide +kernel)
  have r8 : Fr [6, 7, 8, 9, 10, 11, 12, 13, 14, 15, 16] φ (hf_cp (hf_cp (hf_cp (hf_cp (hf_cp (hf_cp (hf_cp (hf_cp φ 84 6 5) 85 7 40) 86 8 3) 87 9 3) 88 10 8) 89 11 8) 90 12 8) 91 13 8) := fr_cp r7 (by decide)
  have i9 : Inv (hf_cp (hf_cp (hf_cp (hf_cp (hf_cp (hf_cp (hf_cp (hf_cp (hf_cp φ 84 6 5) 85 7 40) 86 8 3) 87 9 3) 88 10 8) 89 11 8) 90 12 8) 91 13 8) 92 14 8) := iv_cp i8 (by decide) (by decide +kernel)
  have r9 : Fr [6, 7, 8, 9, 10, 11, 12, 13, 14, 15, 16] φ (hf_cp (hf_cp (hf_cp (hf_cp (hf_cp (hf_cp (hf_cp (hf_cp (hf_cp φ 84 6 5) 85 7 40) 86 8 3) 87 9 3) 88 10 8) 89 11 8) 90 12 8) 91 13 8) 92 14 8) := fr_cp r8 (by decide)
  have i10 : Inv (hf_cp (hf_cp (hf_cp (hf_cp (hf_cp (hf_cp (hf_cp (hf_cp (hf_cp (hf_cp φ 84 6 5) 85 7 40) 86 8 3) 87 9 3) 88 10 8) 89 11 8) 90 12 8) 91 13 8) 92 14 8) 93 15 8) := iv_cp i9 (by decide) (by decide +kernel)
  have r10 : Fr [6, 7, 8, 9, 10, 11, 12, 13, 14, 15, 16] φ (hf_cp (hf_cp (hf_cp (hf_cp (hf_cp (hf_cp (hf_cp (hf_cp (hf_cp (hf_cp φ 84 6 5) 85 7 40) 86 8 3) 87 9 3) 88 10 8) 89 11 8) 90 12 8) 91 13 8) 92 14 8) 93 15 8) := fr_cp r9 (by decide)
  have i11 : Inv (hf_cp (hf_cp (hf_cp (hf_cp (hf_cp (hf_cp (hf_cp (hf_cp (hf_cp (hf_cp (hf_cp φ 84 6 5) 85 7 40) 86 8 3) 87 9 3) 88 10 8) 89 11 8) 90 12 8) 91 13 8) 92 14 8) 93 15 8) 94 16 64) := iv_cp i10 (by decide) (by decide +kernel)
  have r11 : Fr [6, 7, 8, 9, 10, 11, 12, 13, 14, 15, 16] φ (hf_cp (hf_cp (hf_cp (hf_cp (hf_cp (hf_cp (hf_cp (hf_cp (hf_cp (hf_cp (hf_cp φ 84 6 5) 85 7 40) 86 8 3) 87 9 3) 88 10 8) 89 11 8) 90 12 8) 91 13 8) 92 14 8) 93 15 8) 94 16 64) := fr_cp r10 (by decide)
  exact hQ (hf_cp (hf_cp (hf_cp (hf_cp (hf_cp (hf_cp (hf_cp (hf_cp (hf_cp (hf_cp (hf_cp φ 84 6 5) 85 7 40) 86 8 3) 87 9 3) 88 10 8) 89 11 8) 90 12 8) 91 13 8) 92 14 8) 93 15 8) 94 16 64) i11 r11 e0
theorem sf_66_17_95_v {sc : List Int} {d : Nat} {φ : hf_F} {x : Nat} {Q : Option jm_V → hf_F → Nat → Prop} 
    (H : Q none (hf_cp (hf_cp (hf_cp (hf_cp (hf_cp (hf_cp (hf_cp (hf_cp (hf_up (hf_up (hf_up (hf_up (hf_up (hf_up φ 17 0 (φ 95 0)) 17 1 (φ 95 1)) 17 2 (φ 95 2)) 17 3 (φ 95 3)) 17 4 (φ 95 4)) 17 5 (φ 95 5)) 96 18 8) 97 19 8) 98 20 6) 99 21 6) 100 22 36) 101 23 6) 102 24 6) 103 25 8) x) :
    hw sc d 66 0 [(0, (2, 17)), (1, (2, 95))] [] φ x Q := by
  refine hw_ald (b := 0) (e := 0) (by decide +kernel) rfl (by decide) ?_
  refine hw_ald (b := 1) (e := 0) (by decide +kernel) rfl (by decide) ?_
  refine hr_gi (w := φ 95 0) (b := 4) (e := 0) 95 rfl (by decide +kernel) rfl ?_
  refine hr_pi (b := 4) (e := 0) 17 rfl (by decide +kernel) ?_
  refine hw_ald (b := 0) (e := 0) (by decide +kernel) rfl (by decide) ?_
  refine hw_ald (b := 1) (e := 0) (by decide +kernel) rfl (by decide) ?_
  refine hr_gi (w := φ 95 1) (b := 4) (e := 1) 95 rfl (by decide +kernel) (hf_up_ne (fun q => absurd q.1 (by decide))) ?_
  refine hr_pi (b := 4) (e := 1) 17 rfl (by decide +kernel) ?_
  refine hw_ald (b := 0) (e := 0) (by decide +kernel) rfl (by decide) ?_
  refine hw_ald (b := 1) (e := 0) (by decide +kernel) rfl (by decide) ?_
  refine hr_gi (w := φ 95 2) (b := 4) (e := 2) 95 rfl (by decide +kernel) ((hf_up_ne (fun q => absurd q.1 (by decide))).trans (hf_up_ne (fun q => absurd q.1 (by decide)))) ?_
  refine hr_pi (b := 4) (e := 2) 17 rfl (by decide +kernel) ?_
  refine hw_ald (b := 0) (e := 0) (by decide +kernel) rfl (by decide) ?_
  refine hw_ald (b := 1) (e := 0) (by decide +kernel) rfl (by decide) ?_
  refine hr_gi (w := φ 95 3) (b := 4) (e := 3) 95 rfl (by decide +kernel) ((hf_up_ne (fun q => absurd q.1 (by decide))).trans ((hf_up_ne (fun q => absurd q.1 (by decide))).trans (hf_up_ne (fun q => absurd q.1 (by decide))))) ?_
  refine hr_pi (b := 4) (e := 3) 17 rfl (by decide +kernel) ?_
  refine hw_ald (b := 0) (e := 0) (by decide +kernel) rfl (by decide) ?_
  refine hw_ald (b := 1) (e := 0) (by decide +kernel) rfl (by decide) ?_
  refine hr_gi (w := φ 95 4) (b := 4) (e := 4) 95 rfl (by decide +kernel) ((hf_up_ne (fun q => absurd q.1 (by decide))).trans ((hf_up_ne (fun q => absurd q.1 (by decide))).trans ((hf_up_ne (fun q => absurd q.1 (by decide))).trans (hf_up_ne (fun q => absurd q.1 (by decide)))))) ?_
  refine hr_pi (b := 4) (e := 4) 17 rfl (by decide +kernel) ?_
  refine hw_ald (b := 0) (e := 0) (by decide +kernel) rfl (by decide) ?_
  refine hw_ald (b := 1) (e := 0) (by decide +kernel) rfl (by decide) ?_
  refine hr_gi (w := φ 95 5) (b := 4) (e := 5) 95 rfl (by decide +kernel) ((hf_up_ne (fun q => absurd q.1 (by decide))).trans ((hf_up_ne (fun q => absurd q.1 (by decide))).trans ((hf_up_ne (fun q => absurd q.1 (by decide))).trans ((hf_up_ne (fun q => absurd q.1 (by decide))).trans (hf_up_ne (fun q => absurd q.1 (by decide))))))) ?_
  refine hr_pi (b := 4) (e := 5) 17 rfl (by decide +kernel) ?_
  refine hw_ald (b := 1) (e := 0) (by decide +kernel) rfl (by decide) ?_
  refine hr_gr (w := 96) (b := 4) (e := 6) 95 rfl (by decide +kernel) ?_
  refine hw_k (c := 0) (b := 0) (e := 1) (by decide +kernel) ?_
  refine hw_ald (b := 0) (e := 0) (by decide +kernel) rfl (by decide) ?_
  refine hr_gr (w := 18) (b := 4) (e := 6) 17 rfl (by decide +kernel) ?_
  refine hw_k (c := 0) (b := 0) (e := 1) (by decide +kernel) ?_
  refine hw_k (c := 8) (b := 1) (e := 2) (by decide +kernel) ?_
  refine hr_cp (a0 := 0) (b0 := 0) (e := 0) 96 18 8 rfl rfl rfl (by decide +kernel) (Nat.le_of_ble_eq_true rfl) ?_
  refine hw_ald (b := 1) (e := 0) (by decide +kernel) rfl (by decide) ?_
  refine hr_gr (w := 97) (b := 4) (e := 7) 95 rfl (by decide +kernel) ?_
  refine hw_k (c := 0) (b := 0) (e := 1) (by decide +kernel) ?_
  refine hw_ald (b := 0) (e := 0) (by decide +kernel) rfl (by decide) ?_
  refine hr_gr (w := 19) (b := 4) (e := 7) 17 rfl (by decide +kernel) ?_
  refine hw_k (c := 0) (b := 0) (e := 1) (by decide +kernel) ?_
  refine hw_k (c := 8) (b := 1) (e := 2) (by decide +kernel) ?_
  refine hr_cp (a0 := 0) (b0 := 0) (e := 0) 97 19 8 rfl rfl rfl (by decide +kernel) (Nat.le_of_ble_eq_true rfl) ?_
  refine hw_ald (b := 1) (e := 0) (by decide +kernel) rfl (by decide) ?_
  refine hr_gr (w := 98) (b := 4) (e := 8) 95 rfl (by decide +kernel) ?_
  refine hw_k (c := 0) (b := 0) (e := 1) (by decide +kernel) ?_
  refine hw_ald (b := 0) (e := 0) (by decide +kernel) rfl (by decide) ?_
  refine hr_gr (w := 20) (b := 4) (e := 8) 17 rfl (by decide +kernel) ?_
  refine hw_k (c := 0) (b := 0) (e := 1) (by decide +kernel) ?_
  refine hw_k (c := 6) (b := 1) (e := 2) (by decide +kernel) ?_
  refine hr_cp (a0 := 0) (b0 := 0) (e := 0) 98 20 6 rfl rfl rfl (by decide +kernel) (Nat.le_of_ble_eq_true rfl) ?_
  refine hw_ald (b := 1) (e := 0) (by decide +kernel) rfl (by decide) ?_
  refine hr_gr (w := 99) (b := 4) (e := 9) 95 rfl (by decide +kernel) ?_
  refine hw_k (c := 0) (b := 0) (e := 1) (by decide +kernel) ?_
  refine hw_ald (b := 0) (e := 0) (by decide +kernel) rfl (by decide) ?_
  refine hr_gr (w := 21) (b := 4) (e := 9) 17 rfl (by decide +kernel) ?_
  refine hw_k (c := 0) (b := 0) (e := 1) (by decide +kernel) ?_
  refine hw_k (c := 6) (b := 1) (e := 2) (by decide +kernel) ?_
  refine hr_cp (a0 := 0) (b0 := 0) (e := 0) 99 21 6 rfl rfl rfl (by decide +kernel) (Nat.le_of_ble_eq_true rfl) ?_
  refine hw_ald (b := 1) (e := 0) (by decide +kernel) rfl (by decide) ?_
  refine hr_gr (w := 100) (b := 4) (e := 10) 95 rfl (by decide +kernel) ?_
  refine hw_k (c := 0) (b := 0) (e := 1) (by decide +kernel) ?_
  refine hw_ald (b := 0) (e := 0) (by decide +kernel) rfl (by decide) ?_
  refine hr_gr (w := 22) (b := 4) (e := 10) 17 rfl (by decide +kernel) ?_
  refine hw_k (c := 0) (b := 0) (e := 1) (by decide +kernel) ?_
  refine hw_k (c := 36) (b := 1) (e := 2) (by decide +kernel) ?_
  refine hr_cp (a0 := 0) (b0 := 0) (e := 0) 100 22 36 rfl rfl rfl (by decide +kernel) (Nat.le_of_ble_eq_true rfl) ?_
  refine hw_ald (b := 1) (e := 0) (by decide +kernel) rfl (by decide) ?_
  refine hr_gr (w := 101) (b := 4) (e := 11) 95 rfl (by decide +kernel) ?_
  refine hw_k (c := 0) (b := 0) (e := 1) (by decide +kernel) ?_
  refine hw_ald (b := 0) (e := 0) (by decide +kernel) rfl (by decide) ?_
  refine hr_gr (w := 23) (b := 4) (e := 11) 17 rfl (by decide +kernel) ?_
  refine hw_k (c := 0) (b := 0) (e := 1) (by decide +kernel) ?_
  refine hw_k (c := 6) (b := 1) (e := 2) (by decide +kernel) ?_
  refine hr_cp (a0 := 0) (b0 := 0) (e := 0) 101 23 6 rfl rfl rfl (by decide +kernel) (Nat.le_of_ble_eq_true rfl) ?_
  refine hw_ald (b := 1) (e := 0) (by decide +kernel) rfl (by decide) ?_
  refine hr_gr (w := 102) (b := 4) (e := 12) 95 rfl (by decide +kernel) ?_
  refine hw_k (c := 0) (b := 0) (e := 1) (by decide +kernel) ?_
  refine hw_ald (b := 0) (e := 0) (by decide +kernel) rfl (by decide) ?_
  refine hr_gr (w := 24) (b := 4) (e := 12) 17 rfl (by decide +kernel) ?_
  refine hw_k (c := 0) (b := 0) (e := 1) (by decide +kernel) ?_
  refine hw_k (c := 6) (b := 1) (e := 2) (by decide +kernel) ?_
  refine hr_cp (a0 := 0) (b0 := 0) (e := 0) 102 24 6 rfl rfl rfl (by decide +kernel) (Nat.le_of_ble_eq_true rfl) ?_
  refine hw_ald (b := 1) (e := 0) (by decide +kernel) rfl (by decide) ?_
  refine hr_gr (w := 103) (b := 4) (e := 13) 95 rfl (by decide +kernel) ?_
  refine hw_k (c := 0) (b := 0) (e := 1) (by decide +kernel) ?_
  refine hw_ald (b := 0) (e := 0) (by decide +kernel) rfl (by decide) ?_
  refine hr_gr (w := 25) (b := 4) (e := 13) 17 rfl (by decide +kernel) ?_
  refine hw_k (c := 0) (b := 0) (e := 1) (by decide +kernel) ?_
  refine hw_k (c := 8) (b := 1) (e := 2) (by decide +kernel) ?_
  refine hr_cp (a0 := 0) (b0 := 0) (e := 0) 103 25 8 rfl rfl rfl (by decide +kernel) (Nat.le_of_ble_eq_true rfl) ?_
  exact hw_vret (a0 := 0) (e := 0) (by decide +kernel) H
theorem sf_66_17_95 {sc : List Int} {d : Nat} {φ : hf_F} {x : Nat} {Q : Option jm_V → hf_F → Nat → Prop}  (hI : Inv φ)  (hQ : ∀ ψ : hf_F, Inv ψ → Fr [18, 19, 20, 21, 22, 23, 24, 25, 18000, 18001, 18002, 18003, 18004, 18005] φ ψ → F_State_copyFrom_17_95 φ = ψ → Q none ψ x) : hw sc d 66 0 [(0, (2, 17)), (1, (2, 95))] [] φ x Q := by
  apply sf_66_17_95_v
  have e0 : F_State_copyFrom_17_95 φ = _ := rfl
  have i1 : Inv (hf_up φ 17 0 (φ 95 0)) := iv_upn hI (by decide) (by decide) (by decide +kernel)
  have r1 : Fr [18, 19, 20, 21, 22, 23, 24, 25, 18000, 18001, 18002, 18003, 18004, 18005] φ (hf_up φ 17 0 (φ 95 0)) := fr_up (fr_rf) (by decide)
  have f2 := iv_at (a := 95) (k := 1) (lo := (-1 : Int)) (u := 7) hI (by decide +kernel)
  have i3 : Inv (hf_up (hf_up φ 17 0 (φ 95 0)) 17 1 (φ 95 1)) := iv_up (lo := (-1 : Int)) (u := 7) i1 (by decide +kernel) (by omega) (by omega)
  have r3 : Fr [18, 19, 20, 21, 22, 23, 24, 25, 18000, 18001, 18002, 18003, 18004, 18005] φ (hf_up (hf_up φ 17 0 (φ 95 0)) 17 1 (φ 95 1)) := fr_up r1 (by decide)
  have f4 := iv_at (a := 95) (k := 2) (lo := (-1 : Int)) (u := 5) hI (by decide +kernel)
  have i5 : Inv (hf_up (hf_up (hf_up φ 17 0 (φ 95 0)) 17 1 (φ 95 1)) 17 2 (φ 95 2)) := iv_up (lo := (-1 : Int)) (u := 5) i3 (by decide +kernel) (by omega) (by omega)
  have r5 : Fr [18, 19, 20, 21, 22, 23, 24, 25, 18000, 18001, 18002, 18003, 18004, 18005] φ (hf_up (hf_up (hf_up φ 17 0 (φ 95 0)) 17 1 (φ 95 1)) 17 2 (φ 95 2)) := fr_up r3 (by decide)
  have f6 := iv_at (a := 95) (k := 3) (lo := (-2147483648 : Int)) (u := 2147483647) hI (by decide +kernel)
  have i7 : Inv (hf_up (hf_up (hf_up (hf_up φ 17 0 (φ 95 0)) 17 1 (φ 95 1)) 17 2 (φ 95 2)) 17 3 (φ 95 3)) := iv_up (lo := (-2147483648 : Int)) (u := 2147483647) i5 (by decide +kernel) (by omega) (by omega)
  have r7 : Fr [18, 19, 20, 21, 22, 23, 24, 25, 18000, 18001, 18002, 18003, 18004, 18005] φ (hf_up (hf_up (hf_up (hf_up φ 17 0 (φ 95 0)) 17 1 (φ 95 1)) 17 2 (φ 95 2)) 17 3 (φ 95 3)) := fr_up r5 (by decide)
  have i8 : Inv (hf_up (hf_up (hf_up (hf_up (hf_up φ 17 0 (φ 95 0)) 17 1 (φ 95 1)) 17 2 (φ 95 2)) 17 3 (φ 95 3)) 17 4 (φ 95 4)) := iv_upn i7 (by decide) (by decide) (by decide +kernel)
  have r8 : Fr [18, 19, 20, 21, 22, 23, 24, 25, 18000, 18001, 18002, 18003, 18004, 18005] φ (hf_up (hf_up (hf_up (hf_up (hf_up φ 17 0 (φ 95 0)) 17 1 (φ 95 1)) 17 2 (φ 95 2)) 17 3 (φ 95 3)) 17 4 (φ 95 4)) := fr_up r7 (by decide)
  have i9 : Inv (hf_up (hf_up (hf_up (hf_up (hf_up (hf_up φ 17 0 (φ 95 0)) 17 1 (φ 95 1)) 17 2 (φ 95 2)) 17 3 (φ 95 3)) 17 4 (φ 95 4)) 17 5 (φ 95 5)) := iv_upn i8 (by decide) (by decide) (by decide +kernel)
  have r9 : Fr [18, 19, 20, 21, 22, 23, 24, 25, 18000, 18001, 18002, 18003, 18004, 18005] φ (hf_up (hf_up (hf_up (hf_up (hf_up (hf_up φ 17 0 (φ 95 0)) 17 1 (φ 95 1)) 17 2 (φ 95 2)) 17 3 (φ 95 3)) 17 4 (φ 95 4)) 17 5 (φ 95 5)) := fr_up r8 (by decide)
  have i10 : Inv (hf_cp (hf_up (hf_up (hf_up (hf_up (hf_up (hf_up φ 17 0 (φ 95 0)) 17 1 (φ 95 1)) 17 2 (φ 95 2)) 17 3 (φ 95 3)) 17 4 (φ 95 4)) 17 5 (φ 95 5)) 96 18 8) := iv_cp i9 (by decide) (by decide +kernel)
  have r10 : Fr [18, 19, 20, 21, 22, 23, 24, 25, 18000, 18001, 18002, 18003, 18004, 18005] φ (hf_cp (hf_up (hf_up (hf_up (hf_up (hf_up (hf_up φ 17 0 (φ 95 0)) 17 1 (φ 95 1)) 17 2 (φ 95 2)) 17 3 (φ 95 3)) 17 4 (φ 95 4)) 17 5 (φ 95 5)) 96 18 8) := fr_cp r9 (by decide)
  have i11 : Inv (hf_cp (hf_cp (hf_up (hf_up (hf_up (hf_up (hf_up (hf_up φ 17 0 (φ 95 0)) 17 1 (φ 95 1)) 17 2 (φ 95 2)) 17 3 (φ 95 3)) 17 4 (φ 95 4)) 17 5 (φ 95 5)) 96 18 8) 97 19 8) := iv_cp i10 (by decide) (by decide +kernel)
  have r11 : Fr [18, 19, 20, 21, 22, 23, 24, 25, 18000, 18001, 18002, 18003, 18004, 18005] φ (hf_cp (hf_cp (hf_up (hf_up (hf_up (hf_up (hf_up (hf_up φ 17 0 (φ 95 0)) 17 1 (φ 95 1)) 17 2 (φ 95 2)) 17 3 (φ 95 3)) 17 4 (φ 95 4)) 17 5 (φ 95 5)) 96 18 8) 97 19 8) := fr_cp r10 (by decide)
  have i12 : Inv (hf_cp (hf_cp (hf_cp (hf_up (hf_up (hf_up (hf_up (hf_up (hf_up φ 17 0 (φ 95 0)) 17 1 (φ 95 1)) 17 2 (φ 95 2)) 17 3 (φ 95 3)) 17 4 (φ 95 4)) 17 5 (φ 95 5)) 96 18 8) 97 19 8) 98 20 6) := iv_cp i11 (by decide) (by decide +kernel)
  have r12 : Fr [18, 19, 20, 21, 22, 23, 24, 25, 18000, 18001, 18002, 18003, 18004, 18005] φ (hf_cp (hf_cp (hf_cp (hf_up (hf_up (hf_up (hf_up (hf_up (hf_up φ 17 0 (φ 95 0)) 17 1 (φ 95 1)) 17 2 (φ 95 2)) 17 3 (φ 95 3)) 17 4 (φ 95 4)) 17 5 (φ 95 5)) 96 18 8) 97 19 8) 98 20 6) := fr_cp r11 (by decide)
  have i13 : Inv (hf_cp (hf_cp (hf_cp (hf_cp (hf_up (hf_up (hf_up (hf_up (hf_up (hf_up φ 17 0 (φ 95 0)) 17 1 (φ 95 1)) 17 2 (φ 95 2)) 17 3 (φ 95 3)) 17 4 (φ 95 4)) 17 5 (φ 95 5)) 96 18 8) 97 19 8) 98 20 6) 99 21 6) := iv_cp i12 (by decide) (by decide +kernel)
  have r13 : Fr [18, 19, 20, 21, 22, 23, 24, 25, 18000, 18001, 18002, 18003, 18004, 18005] φ (hf_cp (hf_cp (hf_cp (hf_cp (hf_up (hf_up (hf_up (hf_up (hf_up (hf_up φ 17 0 (φ 95 0)) 17 1 (φ 95 1)) 17 2 (φ 95 2)) 17 3 (φ 95 3)) 17 4 (φ 95 4)) 17 5 (φ 95 5)) 96 18 8) 97 19 8) 98 20 6) 99 21 6) := fr_cp r12 (by decide)
  have i14 : Inv (hf_cp (hf_cp (hf_cp (hf_cp (hf_cp (hf_up (hf_up (hf_up (hf_up (hf_up (hf_up φ 17 0 (φ 95 0)) 17 1 (φ 95 1)) 17 2 (φ 95 2)) 17 3 (φ 95 3)) 17 4 (φ 95 4)) 17 5 (φ 95 5)) 96 18 8) 97 19 8) 98 20 6) 99 21 6) 100 22 36) := iv_cp i13 (by decide) (by decide +kernel)
  have r14 : Fr [18, 19, 20, 21, 22, 23, 24, 25, 18000, 18001, 18002, 18003, 18004, 18005] φ (hf_cp (hf_cp (hf_cp (hf_cp (hf_cp (hf_up (hf_up (hf_up (hf_up (hf_up (hf_up φ 17 0 (φ 95 0)) 17 1 (φ 95 1)) 17 2 (φ 95 2)) 17 3 (φ 95 3)) 17 4 (φ 95 4)) 17 5 (φ 95 5)) 96 18 8) 97 19 8) 98 20 6) 99 21 6) 100 22 36) := fr_cp r13 (by decide)
  have i15 : Inv (hf_cp (hf_cp (hf_cp (hf_cp (hf_cp (hf_cp (hf_up (hf_up (hf_up (hf_up (hf_up (hf_up φ 17 0 (φ 95 0)) 17 1 (φ 95 1)) 17 2 (φ 95 2)) 17 3 (φ 95 3)) 17 4 (φ 95 4)) 17 5 (φ 95 5)) 96 18 8) 97 19 8) 98 20 6) 99 21 6) 100 22 36) 101 23 6) := iv_cp i14 (by decide) (by decide +kernel)
  have r15 : Fr [18, 19, 20, 21, 22, 23, 24, 25, 18000, 18001, 18002, 18003, 18004, 18005] φ (hf_cp (hf_cp (hf_cp (hf_cp (hf_cp (hf_cp (hf_up (hf_up (hf_up (hf_up (hf_up (hf_up φ 17 0 (φ 95 0)) 17 1 (φ 95 1)) 17 2 (φ 95 2)) 17 3 (φ 95 3)) 17 4 (φ 95 4)) 17 5 (φ 95 5)) 96 18 8) 97 19 8) 98 20 6) 99 21 6) 100 22 36) 101 23 6) := fr_cp r14 (by decide)
  have i16 : Inv (hf_cp (hf_cp (hf_cp (hf_cp (hf_cp (hf_cp (hf_cp (hf_up (hf_up (hf_up (hf_up (hf_up (hf_up φ 17 0 (φ 95 0)) 17 1 (φ 95 1)) 17 2 (φ 95 2)) 17 3 (φ 95 3)) 17 4 (φ 95 4)) 17 5 (φ 95 5)) 96 18 8) 97 19 8) 98 20 6) 99 21 6) 100 22 36) 101 23 6) 102 24 6) := iv_cp i15 (by decide) (by decide +kernel)
  have r16 : Fr [18, 19, 20, 21, 22, 23, 24, 25, 18000, 18001, 18002, 18003, 18004, 18005] φ (hf_cp (hf_cp (hf_cp (hf_cp (hf_cp (hf_cp (hf_cp (hf_up (hf_up (hf_up (hf_up (hf_up (hf_up φ 17 0 (φ 95 0)) 17 1 (φ 95 1)) 17 2 (φ 95 2)) 17 3 (φ 95 3)) 17 4 (φ 95 4)) 17 5 (φ 95 5)) 96 18 8) 97 19 8) 98 20 6) 99 21 6) 100 22 36) 101 23 6) 102 24 6) := fr_cp r15 (by decide)
  have i17 : Inv (hf_cp (hf_cp (hf_cp (hf_cp (hf_cp (hf_cp (hf_cp (hf_cp (hf_up (hf_up (hf_up (hf_up (hf_up (hf_up φ 17 0 (φ 95 0)) 17 1 (φ 95 1)) 17 2 (φ 95 2)) 17 3 (φ 95 3)) 17 4 (φ 95 4)) 17 5 (φ 95 5)) 96 18 8) 97 19 8) 98 20 6) 99 21 6) 100 22 36) 101 23 6) 102 24 6) 103 25 8) := iv_cp i16 (by decide) (by decide +kernel)
  have r17 : Fr [18, 19, 20, 21, 22, 23, 24, 25, 18000, 18001, 18002, 18003, 18004, 18005] φ (hf_cp (hf_cp (hf_cp (hf_cp (hf_cp (hf_cp (hf_cp (hf_cp (hf_up (hf_up (hf_up (hf_up (hf_up (hf_up φ 17 0 (φ 95 0)) 17 1 (φ 95 1)) 17 2 (φ 95 2)) 17 3 (φ 95 3)) 17 4 (φ 95 4)) 17 5 (φ 95 5)) 96 18 8) 97 19 8) 98 20 6) 99 21 6) 100 22 36) 101 23 6) 102 24 6) 103 25 8) := fr_cp r16 (by decide)
  exact hQ (hf_cp (hf_cp (hf_cp (hf_cp (hf_cp (hf_cp (hf_cp (hf_cp (hf_up (hf_up (hf_up (hf_up (hf_up (hf_up φ 17 0 (φ 95 0)) 17 1 (φ 95 1)) 17 2 (φ 95 2)) 17 3 (φ 95 3)) 17 4 (φ 95 4)) 17 5 (φ 95 5)) 96 18 8) 97 19 8) 98 20 6) 99 21 6) 100 22 36) 101 23 6) 102 24 6) 103 25 8) i17 r17 e0
theorem sf_67_26_104_v {sc : List Int} {d : Nat} {φ : hf_F} {x : Nat} {Q : Option jm_V → hf_F → Nat → Prop} 
    (H : ((φ 104 5) = 0 ∨ (φ 104 5) = 1) ∧ (Q none (hf_up (hf_up (hf_up (hf_cp (hf_cp (hf_cp φ 105 27 40) 106 28 40) 107 29 40) 26 3 (φ 104 3)) 26 4 (φ 104 4)) 26 5 (φ 104 5)) x)) :
    hw sc d 67 0 [(0, (2, 26)), (1, (2, 104))] [] φ x Q := by
  refine hw_ald (b := 1) (e := 0) (by decide +kernel) rfl (by decide) ?_
  refine hr_gr (w := 105) (b := 5) (e := 0) 104 rfl (by decide +kernel) ?_
  refine hw_k (c := 0) (b := 0) (e := 1) (by decide +kernel) ?_
  refine hw_ald (b := 0) (e := 0) (by decide +kernel) rfl (by decide) ?_
  refine hr_gr (w := 27) (b := 5) (e := 0) 26 rfl (by decide +kernel) ?_
  refine hw_k (c := 0) (b := 0) (e := 1) (by decide +kernel) ?_
  refine hw_k (c := 40) (b := 1) (e := 2) (by decide +kernel) ?_
  refine hr_cp (a0 := 0) (b0 := 0) (e := 0) 105 27 40 rfl rfl rfl (by decide +kernel) (Nat.le_of_ble_eq_true rfl) ?_
  refine hw_ald (b := 1) (e := 0) (by decide +kernel) rfl (by decide) ?_
  refine hr_gr (w := 106) (b := 5) (e := 1) 104 rfl (by decide +kernel) ?_
  refine hw_k (c := 0) (b := 0) (e := 1) (by decide +kernel) ?_
  refine hw_ald (b := 0) (e := 0) (by decide +kernel) rfl (by decide) ?_
  refine hr_gr (w := 28) (b := 5) (e := 1) 26 rfl (by decide +kernel) ?_
  refine hw_k (c := 0) (b := 0) (e := 1) (by decide +kernel) ?_
  refine hw_k (c := 40) (b := 1) (e := 2) (by decide +kernel) ?_
  refine hr_cp (a0 := 0) (b0 := 0) (e := 0) 106 28 40 rfl rfl rfl (by decide +kernel) (Nat.le_of_ble_eq_true rfl) ?_
  refine hw_ald (b := 1) (e := 0) (by decide +kernel) rfl (by decide) ?_
  refine hr_gr (w := 107) (b := 5) (e := 2) 104 rfl (by decide +kernel) ?_
  refine hw_k (c := 0) (b := 0) (e := 1) (by decide +kernel) ?_
  refine hw_ald (b := 0) (e := 0) (by decide +kernel) rfl (by decide) ?_
  refine hr_gr (w := 29) (b := 5) (e := 2) 26 rfl (by decide +kernel) ?_
  refine hw_k (c := 0) (b := 0) (e := 1) (by decide +kernel) ?_
  refine hw_k (c := 40) (b := 1) (e := 2) (by decide +kernel) ?_
  refine hr_cp (a0 := 0) (b0 := 0) (e := 0) 107 29 40 rfl rfl rfl (by decide +kernel) (Nat.le_of_ble_eq_true rfl) ?_
  refine hw_ald (b := 0) (e := 0) (by decide +kernel) rfl (by decide) ?_
  refine hw_ald (b := 1) (e := 0) (by decide +kernel) rfl (by decide) ?_
  refine hr_gi (w := φ 104 3) (b := 5) (e := 3) 104 rfl (by decide +kernel) ((hf_cp_ne (fun q => absurd q.1 (by decide))).trans ((hf_cp_ne (fun q => absurd q.1 (by decide))).trans (hf_cp_ne (fun q => absurd q.1 (by decide))))) ?_
  refine hr_pi (b := 5) (e := 3) 26 rfl (by decide +kernel) ?_
  refine hw_ald (b := 0) (e := 0) (by decide +kernel) rfl (by decide) ?_
  refine hw_ald (b := 1) (e := 0) (by decide +kernel) rfl (by decide) ?_
  refine hr_gi (w := φ 104 4) (b := 5) (e := 4) 104 rfl (by decide +kernel) ((hf_up_ne (fun q => absurd q.1 (by decide))).trans ((hf_cp_ne (fun q => absurd q.1 (by decide))).trans ((hf_cp_ne (fun q => absurd q.1 (by decide))).trans (hf_cp_ne (fun q => absurd q.1 (by decide)))))) ?_
  refine hr_pi (b := 5) (e := 4) 26 rfl (by decide +kernel) ?_
  refine hw_ald (b := 0) (e := 0) (by decide +kernel) rfl (by decide) ?_
  refine hw_ald (b := 1) (e := 0) (by decide +kernel) rfl (by decide) ?_
  refine hr_gz (w := φ 104 5) (b := 5) (e := 5) 104 rfl (by decide +kernel) ((hf_up_ne (fun q => absurd q.1 (by decide))).trans ((hf_up_ne (fun q => absurd q.1 (by decide))).trans ((hf_cp_ne (fun q => absurd q.1 (by decide))).trans ((hf_cp_ne (fun q => absurd q.1 (by decide))).trans (hf_cp_ne (fun q => absurd q.1 (by decide))))))) ?_
  obtain ⟨h01_1, H⟩ := H
  refine hr_pz (b := 5) (e := 5) 26 rfl (by decide +kernel) h01_1 ?_
  exact hw_vret (a0 := 0) (e := 0) (by decide +kernel) H
theorem sf_67_26_104 {sc : List Int} {d : Nat} {φ : hf_F} {x : Nat} {Q : Option jm_V → hf_F → Nat → Prop}  (hI : Inv φ)  (hQ : ∀ ψ : hf_F, Inv ψ → Fr [27, 28, 29, 27003, 27004, 27005] φ ψ → F_Sentence_copyFrom_26_104 φ = ψ → Q none ψ x) : hw sc d 67 0 [(0, (2, 26)), (1, (2, 104))] [] φ x Q := by
  apply sf_67_26_104_v
  have e0 : F_Sentence_copyFrom_26_104 φ = _ := rfl
  have i1 : Inv (hf_cp φ 105 27 40) := iv_cp hI (by decide) (by decide +kernel)
  have r1 : Fr [27, 28, 29, 27003, 27004, 27005] φ (hf_cp φ 105 27 40) := fr_cp (fr_rf) (by decide)
  have i2 : Inv (hf_cp (hf_cp φ 105 27 40) 106 28 40) := iv_cp i1 (by decide) (by decide +kernel)
  have r2 : Fr [27, 28, 29, 27003, 27004, 27005] φ (hf_cp (hf_cp φ 105 27 40) 106 28 40) := fr_cp r1 (by decide)
  have i3 : Inv (hf_cp (hf_cp (hf_cp φ 105 27 40) 106 28 40) 107 29 40) := iv_cp i2 (by decide) (by decide +kernel)
  have r3 : Fr [27, 28, 29, 27003, 27004, 27005] φ (hf_cp (hf_cp (hf_cp φ 105 27 40) 106 28 40) 107 29 40) := fr_cp r2 (by decide)
  have f4 := iv_at (a := 104) (k := 3) (lo := 0) (u := 40) hI (by decide +kernel)
  have i5 : Inv (hf_up (hf_cp (hf_cp (hf_cp φ 105 27 40) 106 28 40) 107 29 40) 26 3 (φ 104 3)) := iv_up (lo := 0) (u := 40) i3 (by decide +kernel) (by omega) (by omega)
  have r5 : Fr [27, 28, 29, 27003, 27004, 27005] φ (hf_up (hf_cp (hf_cp (hf_cp φ 105 27 40) 106 28 40) 107 29 40) 26 3 (φ 104 3)) := fr_up r3 (by decide)
  have f6 := iv_at (a := 104) (k := 4) (lo := 0) (u := 20) hI (by decide +kernel)
  have i7 : Inv (hf_up (hf_up (hf_cp (hf_cp (hf_cp φ 105 27 40) 106 28 40) 107 29 40) 26 3 (φ 104 3)) 26 4 (φ 104 4)) := iv_up (lo := 0) (u := 20) i5 (by decide +kernel) (by omega) (by omega)
  have r7 : Fr [27, 28, 29, 27003, 27004, 27005] φ (hf_up (hf_up (hf_cp (hf_cp (hf_cp φ 105 27 40) 106 28 40) 107 29 40) 26 3 (φ 104 3)) 26 4 (φ 104 4)) := fr_up r5 (by decide)
  have f8 := iv_at (a := 104) (k := 5) (lo := 0) (u := 1) hI (by decide +kernel)
  refine ⟨by omega, ?_⟩
  have i9 : Inv (hf_up (hf_up (hf_up (hf_cp (hf_cp (hf_cp φ 105 27 40) 106 28 40) 107 29 40) 26 3 (φ 104 3)) 26 4 (φ 104 4)) 26 5 (φ 104 5)) := iv_up (lo := 0) (u := 1) i7 (by decide +kernel) (by omega) (by omega)
  have r9 : Fr [27, 28, 29, 27003, 27004, 27005] φ (hf_up (hf_up (hf_up (hf_cp (hf_cp (hf_cp φ 105 27 40) 106 28 40) 107 29 40) 26 3 (φ 104 3)) 26 4 (φ 104 4)) 26 5 (φ 104 5)) := fr_up r7 (by decide)
  exact hQ (hf_up (hf_up (hf_up (hf_cp (hf_cp (hf_cp φ 105 27 40) 106 28 40) 107 29 40) 26 3 (φ 104 3)) 26 4 (φ 104 4)) 26 5 (φ 104 5)) i9 r9 e0
theorem sf_64_4_82_v {sc : List Int} {d : Nat} {φ : hf_F} {x : Nat} {Q : Option jm_V → hf_F → Nat → Prop} 
    (H : hw sc d 65 0 [(0, (2, 5)), (1, (2, 83))] [] φ x (fun r ψ1 y1 => y1 = x ∧ (r = none ∧ (hw sc d 66 0 [(0, (2, 17)), (1, (2, 95))] [] ψ1 x (fun r ψ2 y2 => y2 = x ∧ (r = none ∧ (hw sc d 67 0 [(0, (2, 26)), (1, (2, 104))] [] ψ2 x (fun r ψ3 y3 => y3 = x ∧ (r = none ∧ (Q none ψ3 x)))))))))) :
    hw sc (d + 1) 64 0 [(0, (2, 4)), (1, (2, 82))] [] φ x Q := by
  refine hw_ald (b := 0) (e := 0) (by decide +kernel) rfl (by decide) ?_
  refine hr_gr (w := 5) (b := 2) (e := 0) 4 rfl (by decide +kernel) ?_
  refine hw_ald (b := 1) (e := 0) (by decide +kernel) rfl (by decide) ?_
  refine hr_gr (w := 83) (b := 2) (e := 0) 82 rfl (by decide +kernel) ?_
  refine hr_call (a0 := 13) (b := 65) (e := 2) (nl := 2) (As := [(2, 83)]) (R := []) 5 rfl (by decide +kernel) rfl rfl (Nat.le_of_ble_eq_true rfl) (Nat.le_of_ble_eq_true rfl) ?_
  refine hw_mono H ?_
  rintro r ψ1 y1 ⟨hyx, hr, H⟩
  subst hyx
  subst hr
  refine ⟨hnen, ?_⟩
  show hw sc (d + 1) 64 11 [(0, (2, 4)), (1, (2, 82))] [] ψ1 y1 Q
  refine hw_ald (b := 0) (e := 0) (by decide +kernel) rfl (by decide) ?_
  refine hr_gr (w := 17) (b := 2) (e := 1) 4 rfl (by decide +kernel) ?_
  refine hw_ald (b := 1) (e := 0) (by decide +kernel) rfl (by decide) ?_
  refine hr_gr (w := 95) (b := 2) (e := 1) 82 rfl (by decide +kernel) ?_
  refine hr_call (a0 := 14) (b := 66) (e := 2) (nl := 2) (As := [(2, 95)]) (R := []) 17 rfl (by decide +kernel) rfl rfl (Nat.le_of_ble_eq_true rfl) (Nat.le_of_ble_eq_true rfl) ?_
  refine hw_mono H ?_
  rintro r ψ2 y2 ⟨hyx, hr, H⟩
  subst hyx
  subst hr
  refine ⟨hnen, ?_⟩
  show hw sc (d + 1) 64 22 [(0, (2, 4)), (1, (2, 82))] [] ψ2 y2 Q
  refine hw_ald (b := 0) (e := 0) (by decide +kernel) rfl (by decide) ?_
  refine hr_gr (w := 26) (b := 2) (e := 2) 4 rfl (by decide +kernel) ?_
  refine hw_ald (b := 1) (e := 0) (by decide +kernel) rfl (by decide) ?_
  refine hr_gr (w := 104) (b := 2) (e := 2) 82 rfl (by decide +kernel) ?_
  refine hr_call (a0 := 15) (b := 67) (e := 2) (nl := 2) (As := [(2, 104)]) (R := []) 26 rfl (by decide +kernel) rfl rfl (Nat.le_of_ble_eq_true rfl) (Nat.le_of_ble_eq_true rfl) ?_
  refine hw_mono H ?_
  rintro r ψ3 y3 ⟨hyx, hr, H⟩
  subst hyx
  subst hr
  refine ⟨hnen, ?_⟩
  show hw sc (d + 1) 64 33 [(0, (2, 4)), (1, (2, 82))] [] ψ3 y3 Q
  exact hw_vret (a0 := 0) (e := 0) (by decide +kernel) H
theorem sf_64_4_82 {sc : List Int} {d : Nat} {φ : hf_F} {x : Nat} {Q : Option jm_V → hf_F → Nat → Prop}  (hI : Inv φ)  (hQ : ∀ ψ : hf_F, Inv ψ → Fr [6, 7, 8, 9, 10, 11, 12, 13, 14, 15, 16, 18, 19, 20, 21, 22, 23, 24, 25, 27, 28, 29, 18000, 18001, 18002, 18003, 18004, 18005, 27003, 27004, 27005] φ ψ → F_Scene_copyFrom_4_82 φ = ψ → Q none ψ x) : hw sc (d + 1) 64 0 [(0, (2, 4)), (1, (2, 82))] [] φ x Q := by
  apply sf_64_4_82_v
  have e0 : F_Scene_copyFrom_4_82 φ = _ := rfl
  refine sf_65_5_83 (φ := φ) hI  (fun ψ1 hI1 hF1 hE1 => ⟨rfl, rfl, ?_⟩)
  have hG1 : Fr [6, 7, 8, 9, 10, 11, 12, 13, 14, 15, 16, 18, 19, 20, 21, 22, 23, 24, 25, 27, 28, 29, 18000, 18001, 18002, 18003, 18004, 18005, 27003, 27004, 27005] φ ψ1 := fr_tr (fr_rf) hF1 (by decide)
  have e1 := e0.trans (bnv_e hE1)
  refine sf_66_17_95 (φ := ψ1) hI1  (fun ψ2 hI2 hF2 hE2 => ⟨rfl, rfl, ?_⟩)
  have hG2 : Fr [6, 7, 8, 9, 10, 11, 12, 13, 14, 15, 16, 18, 19, 20, 21, 22, 23, 24, 25, 27, 28, 29, 18000, 18001, 18002, 18003, 18004, 18005, 27003, 27004, 27005] φ ψ2 := fr_tr hG1 hF2 (by decide)
  have e2 := e1.trans (bnv_e hE2)
  refine sf_67_26_104 (φ := ψ2) hI2  (fun ψ3 hI3 hF3 hE3 => ⟨rfl, rfl, ?_⟩)
  have hG3 : Fr [6, 7, 8, 9, 10, 11, 12, 13, 14, 15, 16, 18, 19, 20, 21, 22, 23, 24, 25, 27, 28, 29, 18000, 18001, 18002, 18003, 18004, 18005, 27003, 27004, 27005] φ ψ3 := fr_tr hG2 hF3 (by decide)
  have e3 := e2.trans (bnv_e hE3)
  exact hQ ψ3 hI3 hG3 e3
theorem sf_65_5_57_v {sc : List Int} {d : Nat} {φ : hf_F} {x : Nat} {Q : Option jm_V → hf_F → Nat → Prop} 
    (H : Q none (hf_cp (hf_cp (hf_cp (hf_cp (hf_cp (hf_cp (hf_cp (hf_cp (hf_cp (hf_cp (hf_cp φ 58 6 5) 59 7 40) 60 8 3) 61 9 3) 62 10 8) 63 11 8) 64 12 8) 65 13 8) 66 14 8) 67 15 8) 68 16 64) x) :
    hw sc d 65 0 [(0, (2, 5)), (1, (2, 57))] [] φ x Q := by
  refine hw_ald (b := 1) (e := 0) (by decide +kernel) rfl (by decide) ?_
  refine hr_gr (w := 58) (b := 3) (e := 0) 57 rfl (by decide +kernel) ?_
  refine hw_k (c := 0) (b := 0) (e := 1) (by decide +kernel) ?_
  refine hw_ald (b := 0) (e := 0) (by decide +kernel) rfl (by decide) ?_
  refine hr_gr (w := 6) (b := 3) (e := 0) 5 rfl (by decide +kernel) ?_
  refine hw_k (c := 0) (b := 0) (e := 1) (by decide +kernel) ?_
  refine hw_k (c := 5) (b := 0) (e := 1) (by decide +kernel) ?_
  refine hr_cp (a0 := 0) (b0 := 0) (e := 0) 58 6 5 rfl rfl rfl (by decide +kernel) (Nat.le_of_ble_eq_true rfl) ?_
  refine hw_ald (b := 1) (e := 0) (by decide +kernel) rfl (by decide) ?_
  refine hr_gr (w := 59) (b := 3) (e := 1) 57 rfl (by decide +kernel) ?_
  refine hw_k (c := 0) (b := 0) (e := 1) (by decide +kernel) ?_
  refine hw_ald (b := 0) (e := 0) (by decide +kernel) rfl (by decide) ?_
  refine hr_gr (w := 7) (b := 3) (e := 1) 5 rfl (by decide +kernel) ?_
  refine hw_k (c := 0) (b := 0) (e := 1) (by decide +kernel) ?_
  refine hw_k (c := 40) (b := 1) (e := 2) (by decide +kernel) ?_
  refine hr_cp (a0 := 0) (b0 := 0) (e := 0) 59 7 40 rfl rfl rfl (by decide +kernel) (Nat.le_of_ble_eq_true rfl) ?_
  refine hw_ald (b := 1) (e := 0) (by decide +kernel) rfl (by decide) ?_
  refine hr_gr (w := 60) (b := 3) (e := 2) 57 rfl (by decide +kernel) ?_
  refine hw_k (c := 0) (b := 0) (e := 1) (by decide +kernel) ?_
  refine hw_ald (b := 0) (e := 0) (by decide +kernel) rfl (by decide) ?_
  refine hr_gr (w := 8) (b := 3) (e := 2) 5 rfl (by decide +kernel) ?_
  refine hw_k (c := 0) (b := 0) (e := 1) (by decide +kernel) ?_
  refine hw_k (c := 3) (b := 0) (e := 1) (by decide +kernel) ?_
  refine hr_cp (a0 := 0) (b0 := 0) (e := 0) 60 8 3 rfl rfl rfl (by decide +kernel) (Nat.le_of_ble_eq_true rfl) ?_
  refine hw_ald (b := 1) (e := 0) (by decide +kernel) rfl (by decide) ?_
  refine hr_gr (w := 61) (b := 3) (e := 3) 57 rfl (by decide +kernel) ?_
  refine hw_k (c := 0) (b := 0) (e := 1) (by decide +kernel) ?_
  refine hw_ald (b := 0) (e := 0) (by decide +kernel) rfl (by decide) ?_
  refine hr_gr (w := 9) (b := 3) (e := 3) 5 rfl (by decide +kernel) ?_
  refine hw_k (c := 0) (b := 0) (e := 1) (by decide +kernel) ?_
  refine hw_k (c := 3) (b := 0) (e := 1) (by decide +kernel) ?_
  refine hr_cp (a0 := 0) (b0 := 0) (e := 0) 61 9 3 rfl rfl rfl (by decide +kernel) (Nat.le_of_ble_eq_true rfl) ?_
  refine hw_ald (b := 1) (e := 0) (by decide +kernel) rfl (by decide) ?_
  refine hr_gr (w := 62) (b := 3) (e := 4) 57 rfl (by decide +kernel) ?_
  refine hw_k (c := 0) (b := 0) (e := 1) (by decide +kernel) ?_
  refine hw_ald (b := 0) (e := 0) (by decide +kernel) rfl (by decide) ?_
  refine hr_gr (w := 10) (b := 3) (e := 4) 5 rfl (by decide +kernel) ?_
  refine hw_k (c := 0) (b := 0) (e := 1) (by decide +kernel) ?_
  refine hw_k (c := 8) (b := 1) (e := 2) (by decide +kernel) ?_
  refine hr_cp (a0 := 0) (b0 := 0) (e := 0) 62 10 8 rfl rfl rfl (by decide +kernel) (Nat.le_of_ble_eq_true rfl) ?_
  refine hw_ald (b := 1) (e := 0) (by decide +kernel) rfl (by decide) ?_
  refine hr_gr (w := 63) (b := 3) (e := 5) 57 rfl (by decide +kernel) ?_
  refine hw_k (c := 0) (b := 0) (e := 1) (by decide +kernel) ?_
  refine hw_ald (b := 0) (e := 0) (by decide +kernel) rfl (by decide) ?_
  refine hr_gr (w := 11) (b := 3) (e := 5) 5 rfl (by decide +kernel) ?_
  refine hw_k (c := 0) (b := 0) (e := 1) (by decide +kernel) ?_
  refine hw_k (c := 8) (b := 1) (e := 2) (by decide +kernel) ?_
  refine hr_cp (a0 := 0) (b0 := 0) (e := 0) 63 11 8 rfl rfl rfl (by decide +kernel) (Nat.le_of_ble_eq_true rfl) ?_
  refine hw_ald (b := 1) (e := 0) (by decide +kernel) rfl (by decide) ?_
  refine hr_gr (w := 64) (b := 3) (e := 6) 57 rfl (by decide +kernel) ?_
  refine hw_k (c := 0) (b := 0) (e := 1) (by decide +kernel) ?_
  refine hw_ald (b := 0) (e := 0) (by decide +kernel) rfl (by decide) ?_
  refine hr_gr (w := 12) (b := 3) (e := 6) 5 rfl (by decide +kernel) ?_
  refine hw_k (c := 0) (b := 0) (e := 1) (by decide +kernel) ?_
  refine hw_k (c := 8) (b := 1) (e := 2) (by decide +kernel) ?_
  refine hr_cp (a0 := 0) (b0 := 0) (e := 0) 64 12 8 rfl rfl rfl (by decide +kernel) (Nat.le_of_ble_eq_true rfl) ?_
  refine hw_ald (b := 1) (e := 0) (by decide +kernel) rfl (by decide) ?_
  refine hr_gr (w := 65) (b := 3) (e := 7) 57 rfl (by decide +kernel) ?_
  refine hw_k (c := 0) (b := 0) (e := 1) (by decide +kernel) ?_
  refine hw_ald (b := 0) (e := 0) (by decide +kernel) rfl (by decide) ?_
  refine hr_gr (w := 13) (b := 3) (e := 7) 5 rfl (by decide +kernel) ?_
  refine hw_k (c := 0) (b := 0) (e := 1) (by decide +kernel) ?_
  refine hw_k (c := 8) (b := 1) (e := 2) (by decide +kernel) ?_
  refine hr_cp (a0 := 0) (b0 := 0) (e := 0) 65 13 8 rfl rfl rfl (by decide +kernel) (Nat.le_of_ble_eq_true rfl) ?_
  refine hw_ald (b := 1) (e := 0) (by decide +kernel) rfl (by decide) ?_
  refine hr_gr (w := 66) (b := 3) (e := 8) 57 rfl (by decide +kernel) ?_
  refine hw_k (c := 0) (b := 0) (e := 1) (by decide +kernel) ?_
  refine hw_ald (b := 0) (e := 0) (by decide +kernel) rfl (by decide) ?_
  refine hr_gr (w := 14) (b := 3) (e := 8) 5 rfl (by decide +kernel) ?_
  refine hw_k (c := 0) (b := 0) (e := 1) (by decide +kernel) ?_
  refine hw_k (c := 8) (b := 1) (e := 2) (by decide +kernel) ?_
  refine hr_cp (a0 := 0) (b0 := 0) (e := 0) 66 14 8 rfl rfl rfl (by decide +kernel) (Nat.le_of_ble_eq_true rfl) ?_
  refine hw_ald (b := 1) (e := 0) (by decide +kernel) rfl (by decide) ?_
  refine hr_gr (w := 67) (b := 3) (e := 9) 57 rfl (by decide +kernel) ?_
  refine hw_k (c := 0) (b := 0) (e := 1) (by decide +kernel) ?_
  refine hw_ald (b := 0) (e := 0) (by decide +kernel) rfl (by decide) ?_
  refine hr_gr (w := 15) (b := 3) (e := 9) 5 rfl (by decide +kernel) ?_
  refine hw_k (c := 0) (b := 0) (e := 1) (by decide +kernel) ?_
  refine hw_k (c := 8) (b := 1) (e := 2) (by decide +kernel) ?_
  refine hr_cp (a0 := 0) (b0 := 0) (e := 0) 67 15 8 rfl rfl rfl (by decide +kernel) (Nat.le_of_ble_eq_true rfl) ?_
  refine hw_ald (b := 1) (e := 0) (by decide +kernel) rfl (by decide) ?_
  refine hr_gr (w := 68) (b := 3) (e := 10) 57 rfl (by decide +kernel) ?_
  refine hw_k (c := 0) (b := 0) (e := 1) (by decide +kernel) ?_
  refine hw_ald (b := 0) (e := 0) (by decide +kernel) rfl (by decide) ?_
  refine hr_gr (w := 16) (b := 3) (e := 10) 5 rfl (by decide +kernel) ?_
  refine hw_k (c := 0) (b := 0) (e := 1) (by decide +kernel) ?_
  refine hw_k (c := 64) (b := 1) (e := 2) (by decide +kernel) ?_
  refine hr_cp (a0 := 0) (b0 := 0) (e := 0) 68 16 64 rfl rfl rfl (by decide +kernel) (Nat.le_of_ble_eq_true rfl) ?_
  exact hw_vret (a0 := 0) (e := 0) (by decide +kernel) H
theorem sf_65_5_57 {sc : List Int} {d : Nat} {φ : hf_F} {x : Nat} {Q : Option jm_V → hf_F → Nat → Prop}  (hI : Inv φ)  (hQ : ∀ ψ : hf_F, Inv ψ → Fr [6, 7, 8, 9, 10, 11, 12, 13, 14, 15, 16] φ ψ → F_Plan_copyFrom_5_57 φ = ψ → Q none ψ x) : hw sc d 65 0 [(0, (2, 5)), (1, (2, 57))] [] φ x Q := by
  apply sf_65_5_57_v
  have e0 : F_Plan_copyFrom_5_57 φ = _ := rfl
  have i1 : Inv (hf_cp φ 58 6 5) := iv_cp hI (by decide) (by decide +kernel)
  have r1 : Fr [6, 7, 8, 9, 10, 11, 12, 13, 14, 15, 16] φ (hf_cp φ 58 6 5) := fr_cp (fr_rf) (by decide)
  have i2 : Inv (hf_cp (hf_cp φ 58 6 5) 59 7 40) := iv_cp i1 (by decide) (by decide +kernel)
  have r2 : Fr [6, 7, 8, 9, 10, 11, 12, 13, 14, 15, 16] φ (hf_cp (hf_cp φ 58 6 5) 59 7 40) := fr_cp r1 (by decide)
  have i3 : Inv (hf_cp (hf_cp (hf_cp φ 58 6 5) 59 7 40) 60 8 3) := iv_cp i2 (by decide) (by decide +kernel)
  have r3 : Fr [6, 7, 8, 9, 10, 11, 12, 13, 14, 15, 16] φ (hf_cp (hf_cp (hf_cp φ 58 6 5) 59 7 40) 60 8 3) := fr_cp r2 (by decide)
  have i4 : Inv (hf_cp (hf_cp (hf_cp (hf_cp φ 58 6 5) 59 7 40) 60 8 3) 61 9 3) := iv_cp i3 (by decide) (by decide +kernel)
  have r4 : Fr [6, 7, 8, 9, 10, 11, 12, 13, 14, 15, 16] φ (hf_cp (hf_cp (hf_cp (hf_cp φ 58 6 5) 59 7 40) 60 8 3) 61 9 3) := fr_cp r3 (by decide)
  have i5 : Inv (hf_cp (hf_cp (hf_cp (hf_cp (hf_cp φ 58 6 5) 59 7 40) 60 8 3) 61 9 3) 62 10 8) := iv_cp i4 (by decide) (by decide +kernel)
  have r5 : Fr [6, 7, 8, 9, 10, 11, 12, 13, 14, 15, 16] φ (hf_cp (hf_cp (hf_cp (hf_cp (hf_cp φ 58 6 5) 59 7 40) 60 8 3) 61 9 3) 62 10 8) := fr_cp r4 (by decide)
  have i6 : Inv (hf_cp (hf_cp (hf_cp (hf_cp (hf_cp (hf_cp φ 58 6 5) 59 7 40) 60 8 3) 61 9 3) 62 10 8) 63 11 8) := iv_cp i5 (by decide) (by decide +kernel)
  have r6 : Fr [6, 7, 8, 9, 10, 11, 12, 13, 14, 15, 16] φ (hf_cp (hf_cp (hf_cp (hf_cp (hf_cp (hf_cp φ 58 6 5) 59 7 40) 60 8 3) 61 9 3) 62 10 8) 63 11 8) := fr_cp r5 (by decide)
  have i7 : Inv (hf_cp (hf_cp (hf_cp (hf_cp (hf_cp (hf_cp (hf_cp φ 58 6 5) 59 7 40) 60 8 3) 61 9 3) 62 10 8) 63 11 8) 64 12 8) := iv_cp i6 (by decide) (by decide +kernel)
  have r7 : Fr [6, 7, 8, 9, 10, 11, 12, 13, 14, 15, 16] φ (hf_cp (hf_cp (hf_cp (hf_cp (hf_cp (hf_cp (hf_cp φ 58 6 5) 59 7 40) 60 8 3) 61 9 3) 62 10 8) 63 11 8) 64 12 8) := fr_cp r6 (by decide)
  have i8 : Inv (hf_cp (hf_cp (hf_cp (hf_cp (hf_cp (hf_cp (hf_cp (hf_cp φ 58 6 5) 59 7 40) 60 8 3) 61 9 3) 62 10 8) 63 11 8) 64 12 8) 65 13 8) := iv_cp i7 (by decide) (by decide +kernel)
  have r8 : Fr [6, 7, 8, 9, 10, 11, 12, 13, 14, 15, 16] φ (hf_cp (hf_cp (hf_cp (hf_cp (hf_cp (hf_cp (hf_cp (hf_cp φ 58 6 5) 59 7 40) 60 8 3) 61 9 3) 62 10 8) 63 11 8) 64 12 8) 65 13 8) := fr_cp r7 (by decide)
  have i9 : Inv (hf_cp (hf_cp (hf_cp (hf_cp (hf_cp (hf_cp (hf_cp (hf_cp (hf_cp φ 58 6 5) 59 7 40) 60 8 3) 61 9 3) 62 10 8) 63 11 8) 64 12 8) 65 13 8) 66 14 8) := iv_cp i8 (by decide) (by decide +kernel)
  have r9 : Fr [6, 7, 8, 9, 10, 11, 12, 13, 14, 15, 16] φ (hf_cp (hf_cp (hf_cp (hf_cp (hf_cp (hf_cp (hf_cp (hf_cp (hf_cp φ 58 6 5) 59 7 40) 60 8 3) 61 9 3) 62 10 8) 63 11 8) 64 12 8) 65 13 8) 66 14 8) := fr_cp r8 (by decide)
  have i10 : Inv (hf_cp (hf_cp (hf_cp (hf_cp (hf_cp (hf_cp (hf_cp (hf_cp (hf_cp (hf_cp φ 58 6 5) 59 7 40) 60 8 3) 61 9 3) 62 10 8) 63 11 8) 64 12 8) 65 13 8) 66 14 8) 67 15 8) := iv_cp i9 (by decide) (by decide +kernel)
  have r10 : Fr [6, 7, 8, 9, 10, 11, 12, 13, 14, 15, 16] φ (hf_cp (hf_cp (hf_cp (hf_cp (hf_cp (hf_cp (hf_cp (hf_cp (hf_cp (hf_cp φ 58 6 5) 59 7 40) 60 8 3) 61 9 3) 62 10 8) 63 11 8) 64 12 8) 65 13 8) 66 14 8) 67 15 8) := fr_cp r9 (by decide)
  have i11 : Inv (hf_cp (hf_cp (hf_cp (hf_cp (hf_cp (hf_cp (hf_cp (hf_cp (hf_cp (hf_cp (hf_cp φ 58 6 5) 59 7 40) 60 8 3) 61 9 3) 62 10 8) 63 11 8) 64 12 8) 65 13 8) 66 14 8) 67 15 8) 68 16 64) := iv_cp i10 (by decide) (by decide +kernel)
  have r11 : Fr [6, 7, 8, 9, 10, 11, 12, 13, 14, 15, 16] φ (hf_cp (hf_cp (hf_cp (hf_cp (hf_cp (hf_cp (hf_cp (hf_cp (hf_cp (hf_cp (hf_cp φ 58 6 5) 59 7 40) 60 8 3) 61 9 3) 62 10 8) 63 11 8) 64 12 8) 65 13 8) 66 14 8) 67 15 8) 68 16 64) := fr_cp r10 (by decide)
  exact hQ (hf_cp (hf_cp (hf_cp (hf_cp (hf_cp (hf_cp (hf_cp (hf_cp (hf_cp (hf_cp (hf_cp φ 58 6 5) 59 7 40) 60 8 3) 61 9 3) 62 10 8) 63 11 8) 64 12 8) 65 13 8) 66 14 8) 67 15 8) 68 16 64) i11 r11 e0
theorem sf_66_17_69_v {sc : List Int} {d : Nat} {φ : hf_F} {x : Nat} {Q : Option jm_V → hf_F → Nat → Prop} 
    (H : Q none (hf_cp (hf_cp (hf_cp (hf_cp (hf_cp (hf_cp (hf_cp (hf_cp (hf_up (hf_up (hf_up (hf_up (hf_up (hf_up φ 17 0 (φ 69 0)) 17 1 (φ 69 1)) 17 2 (φ 69 2)) 17 3 (φ 69 3)) 17 4 (φ 69 4)) 17 5 (φ 69 5)) 70 18 8) 71 19 8) 72 20 6) 73 21 6) 74 22 36) 75 23 6) 76 24 6) 77 25 8) x) :
    hw sc d 66 0 [(0, (2, 17)), (1, (2, 69))] [] φ x Q := by
  refine hw_ald (b := 0) (e := 0) (by decide +kernel) rfl (by decide) ?_
  refine hw_ald (b := 1) (e := 0) (by decide +kernel) rfl (by decide) ?_
  refine hr_gi (w := φ 69 0) (b := 4) (e := 0) 69 rfl (by decide +kernel) rfl ?_
  refine hr_pi (b := 4) (e := 0) 17 rfl (by decide +kernel) ?_
  refine hw_ald (b := 0) (e := 0) (by decide +kernel) rfl (by decide) ?_
  refine hw_ald (b := 1) (e := 0) (by decide +kernel) rfl (by decide) ?_
  refine hr_gi (w := φ 69 1) (b := 4) (e := 1) 69 rfl (by decide +kernel) (hf_up_ne (fun q => absurd q.1 (by decide))) ?_
  refine hr_pi (b := 4) (e := 1) 17 rfl (by decide +kernel) ?_
  refine hw_ald (b := 0) (e := 0) (by decide +kernel) rfl (by decide) ?_
  refine hw_ald (b := 1) (e := 0) (by decide +kernel) rfl (by decide) ?_
  refine hr_gi (w := φ 69 2) (b := 4) (e := 2) 69 rfl (by decide +kernel) ((hf_up_ne (fun q => absurd q.1 (by decide))).trans (hf_up_ne (fun q => absurd q.1 (by decide)))) ?_
  refine hr_pi (b := 4) (e := 2) 17 rfl (by decide +kernel) ?_
  refine hw_ald (b := 0) (e := 0) (by decide +kernel) rfl (by decide) ?_
  refine hw_ald (b := 1) (e := 0) (by decide +kernel) rfl (by decide) ?_
  refine hr_gi (w := φ 69 3) (b := 4) (e := 3) 69 rfl (by decide +kernel) ((hf_up_ne (fun q => absurd q.1 (by decide))).trans ((hf_up_ne (fun q => absurd q.1 (by decide))).trans (hf_up_ne (fun q => absurd q.1 (by decide))))) ?_
  refine hr_pi (b := 4) (e := 3) 17 rfl (by decide +kernel) ?_
  refine hw_ald (b := 0) (e := 0) (by decide +kernel) rfl (by decide) ?_
  refine hw_ald (b := 1) (e := 0) (by decide +kernel) rfl (by decide) ?_
  refine hr_gi (w := φ 69 4) (b := 4) (e := 4) 69 rfl (by decide +kernel) ((hf_up_ne (fun q => absurd q.1 (by decide))).trans ((hf_up_ne (fun q => absurd q.1 (by decide))).trans ((hf_up_ne (fun q => absurd q.1 (by decide))).trans (hf_up_ne (fun q => absurd q.1 (by decide)))))) ?_
  refine hr_pi (b := 4) (e := 4) 17 rfl (by decide +kernel) ?_
  refine hw_ald (b := 0) (e := 0) (by decide +kernel) rfl (by decide) ?_
  refine hw_ald (b := 1) (e := 0) (by decide +kernel) rfl (by decide) ?_
  refine hr_gi (w := φ 69 5) (b := 4) (e := 5) 69 rfl (by decide +kernel) ((hf_up_ne (fun q => absurd q.1 (by decide))).trans ((hf_up_ne (fun q => absurd q.1 (by decide))).trans ((hf_up_ne (fun q => absurd q.1 (by decide))).trans ((hf_up_ne (fun q => absurd q.1 (by decide))).trans (hf_up_ne (fun q => absurd q.1 (by decide))))))) ?_
  refine hr_pi (b := 4) (e := 5) 17 rfl (by decide +kernel) ?_
  refine hw_ald (b := 1) (e := 0) (by decide +kernel) rfl (by decide) ?_
  refine hr_gr (w := 70) (b := 4) (e := 6) 69 rfl (by decide +kernel) ?_
  refine hw_k (c := 0) (b := 0) (e := 1) (by decide +kernel) ?_
  refine hw_ald (b := 0) (e := 0) (by decide +kernel) rfl (by decide) ?_
  refine hr_gr (w := 18) (b := 4) (e := 6) 17 rfl (by decide +kernel) ?_
  refine hw_k (c := 0) (b := 0) (e := 1) (by decide +kernel) ?_
  refine hw_k (c := 8) (b := 1) (e := 2) (by decide +kernel) ?_
  refine hr_cp (a0 := 0) (b0 := 0) (e := 0) 70 18 8 rfl rfl rfl (by decide +kernel) (Nat.le_of_ble_eq_true rfl) ?_
  refine hw_ald (b := 1) (e := 0) (by decide +kernel) rfl (by decide) ?_
  refine hr_gr (w := 71) (b := 4) (e := 7) 69 rfl (by decide +kernel) ?_
  refine hw_k (c := 0) (b := 0) (e := 1) (by decide +kernel) ?_
  refine hw_ald (b := 0) (e := 0) (by decide +kernel) rfl (by decide) ?_
  refine hr_gr (w := 19) (b := 4) (e := 7) 17 rfl (by decide +kernel) ?_
  refine hw_k (c := 0) (b := 0) (e := 1) (by decide +kernel) ?_
  refine hw_k (c := 8) (b := 1) (e := 2) (by decide +kernel) ?_
  refine hr_cp (a0 := 0) (b0 := 0) (e := 0) 71 19 8 rfl rfl rfl (by decide +kernel) (Nat.le_of_ble_eq_true rfl) ?_
  refine hw_ald (b := 1) (e := 0) (by decide +kernel) rfl (by decide) ?_
  refine hr_gr (w := 72) (b := 4) (e := 8) 69 rfl (by decide +kernel) ?_
  refine hw_k (c := 0) (b := 0) (e := 1) (by decide +kernel) ?_
  refine hw_ald (b := 0) (e := 0) (by decide +kernel) rfl (by decide) ?_
  refine hr_gr (w := 20) (b := 4) (e := 8) 17 rfl (by decide +kernel) ?_
  refine hw_k (c := 0) (b := 0) (e := 1) (by decide +kernel) ?_
  refine hw_k (c := 6) (b := 1) (e := 2) (by decide +kernel) ?_
  refine hr_cp (a0 := 0) (b0 := 0) (e := 0) 72 20 6 rfl rfl rfl (by decide +kernel) (Nat.le_of_ble_eq_true rfl) ?_
  refine hw_ald (b := 1) (e := 0) (by decide +kernel) rfl (by decide) ?_
  refine hr_gr (w := 73) (b := 4) (e := 9) 69 rfl (by decide +kernel) ?_
  refine hw_k (c := 0) (b := 0) (e := 1) (by decide +kernel) ?_
  refine hw_ald (b := 0) (e := 0) (by decide +kernel) rfl (by decide) ?_
  refine hr_gr (w := 21) (b := 4) (e := 9) 17 rfl (by decide +kernel) ?_
  refine hw_k (c := 0) (b := 0) (e := 1) (by decide +kernel) ?_
  refine hw_k (c := 6) (b := 1) (e := 2) (by decide +kernel) ?_
  refine hr_cp (a0 := 0) (b0 := 0) (e := 0) 73 21 6 rfl rfl rfl (by decide +kernel) (Nat.le_of_ble_eq_true rfl) ?_
  refine hw_ald (b := 1) (e := 0) (by decide +kernel) rfl (by decide) ?_
  refine hr_gr (w := 74) (b := 4) (e := 10) 69 rfl (by decide +kernel) ?_
  refine hw_k (c := 0) (b := 0) (e := 1) (by decide +kernel) ?_
  refine hw_ald (b := 0) (e := 0) (by decide +kernel) rfl (by decide) ?_
  refine hr_gr (w := 22) (b := 4) (e := 10) 17 rfl (by decide +kernel) ?_
  refine hw_k (c := 0) (b := 0) (e := 1) (by decide +kernel) ?_
  refine hw_k (c := 36) (b := 1) (e := 2) (by decide +kernel) ?_
  refine hr_cp (a0 := 0) (b0 := 0) (e := 0) 74 22 36 rfl rfl rfl (by decide +kernel) (Nat.le_of_ble_eq_true rfl) ?_
  refine hw_ald (b := 1) (e := 0) (by decide +kernel) rfl (by decide) ?_
  refine hr_gr (w := 75) (b := 4) (e := 11) 69 rfl (by decide +kernel) ?_
  refine hw_k (c := 0) (b := 0) (e := 1) (by decide +kernel) ?_
  refine hw_ald (b := 0) (e := 0) (by decide +kernel) rfl (by decide) ?_
  refine hr_gr (w := 23) (b := 4) (e := 11) 17 rfl (by decide +kernel) ?_
  refine hw_k (c := 0) (b := 0) (e := 1) (by decide +kernel) ?_
  refine hw_k (c := 6) (b := 1) (e := 2) (by decide +kernel) ?_
  refine hr_cp (a0 := 0) (b0 := 0) (e := 0) 75 23 6 rfl rfl rfl (by decide +kernel) (Nat.le_of_ble_eq_true rfl) ?_
  refine hw_ald (b := 1) (e := 0) (by decide +kernel) rfl (by decide) ?_
  refine hr_gr (w := 76) (b := 4) (e := 12) 69 rfl (by decide +kernel) ?_
  refine hw_k (c := 0) (b := 0) (e := 1) (by decide +kernel) ?_
  refine hw_ald (b := 0) (e := 0) (by decide +kernel) rfl (by decide) ?_
  refine hr_gr (w := 24) (b := 4) (e := 12) 17 rfl (by decide +kernel) ?_
  refine hw_k (c := 0) (b := 0) (e := 1) (by decide +kernel) ?_
  refine hw_k (c := 6) (b := 1) (e := 2) (by decide +kernel) ?_
  refine hr_cp (a0 := 0) (b0 := 0) (e := 0) 76 24 6 rfl rfl rfl (by decide +kernel) (Nat.le_of_ble_eq_true rfl) ?_
  refine hw_ald (b := 1) (e := 0) (by decide +kernel) rfl (by decide) ?_
  refine hr_gr (w := 77) (b := 4) (e := 13) 69 rfl (by decide +kernel) ?_
  refine hw_k (c := 0) (b := 0) (e := 1) (by decide +kernel) ?_
  refine hw_ald (b := 0) (e := 0) (by decide +kernel) rfl (by decide) ?_
  refine hr_gr (w := 25) (b := 4) (e := 13) 17 rfl (by decide +kernel) ?_
  refine hw_k (c := 0) (b := 0) (e := 1) (by decide +kernel) ?_
  refine hw_k (c := 8) (b := 1) (e := 2) (by decide +kernel) ?_
  refine hr_cp (a0 := 0) (b0 := 0) (e := 0) 77 25 8 rfl rfl rfl (by decide +kernel) (Nat.le_of_ble_eq_true rfl) ?_
  exact hw_vret (a0 := 0) (e := 0) (by decide +kernel) H
theorem sf_66_17_69 {sc : List Int} {d : Nat} {φ : hf_F} {x : Nat} {Q : Option jm_V → hf_F → Nat → Prop}  (hI : Inv φ)  (hQ : ∀ ψ : hf_F, Inv ψ → Fr [18, 19, 20, 21, 22, 23, 24, 25, 18000, 18001, 18002, 18003, 18004, 18005] φ ψ → F_State_copyFrom_17_69 φ = ψ → Q none ψ x) : hw sc d 66 0 [(0, (2, 17)), (1, (2, 69))] [] φ x Q := by
  apply sf_66_17_69_v
  have e0 : F_State_copyFrom_17_69 φ = _ := rfl
  have i1 : Inv (hf_up φ 17 0 (φ 69 0)) := iv_upn hI (by decide) (by decide) (by decide +kernel)
  have r1 : Fr [18, 19, 20, 21, 22, 23, 24, 25, 18000, 18001, 18002, 18003, 18004, 18005] φ (hf_up φ 17 0 (φ 69 0)) := fr_up (fr_rf) (by decide)
  have f2 := iv_at (a := 69) (k := 1) (lo := (-1 : Int)) (u := 7) hI (by decide +kernel)
  have i3 : Inv (hf_up (hf_up φ 17 0 (φ 69 0)) 17 1 (φ 69 1)) := iv_up (lo := (-1 : Int)) (u := 7) i1 (by decide +kernel) (by omega) (by omega)
  have r3 : Fr [18, 19, 20, 21, 22, 23, 24, 25, 18000, 18001, 18002, 18003, 18004, 18005] φ (hf_up (hf_up φ 17 0 (φ 69 0)) 17 1 (φ 69 1)) := fr_up r1 (by decide)
  have f4 := iv_at (a := 69) (k := 2) (lo := (-1 : Int)) (u := 5) hI (by decide +kernel)
  have i5 : Inv (hf_up (hf_up (hf_up φ 17 0 (φ 69 0)) 17 1 (φ 69 1)) 17 2 (φ 69 2)) := iv_up (lo := (-1 : Int)) (u := 5) i3 (by decide +kernel) (by omega) (by omega)
  have r5 : Fr [18, 19, 20, 21, 22, 23, 24, 25, 18000, 18001, 18002, 18003, 18004, 18005] φ (hf_up (hf_up (hf_up φ 17 0 (φ 69 0)) 17 1 (φ 69 1)) 17 2 (φ 69 2)) := fr_up r3 (by decide)
  have f6 := iv_at (a := 69) (k := 3) (lo := (-2147483648 : Int)) (u := 2147483647) hI (by decide +kernel)
  have i7 : Inv (hf_up (hf_up (hf_up (hf_up φ 17 0 (φ 69 0)) 17 1 (φ 69 1)) 17 2 (φ 69 2)) 17 3 (φ 69 3)) := iv_up (lo := (-2147483648 : Int)) (u := 2147483647) i5 (by decide +kernel) (by omega) (by omega)
  have r7 : Fr [18, 19, 20, 21, 22, 23, 24, 25, 18000, 18001, 18002, 18003, 18004, 18005] φ (hf_up (hf_up (hf_up (hf_up φ 17 0 (φ 69 0)) 17 1 (φ 69 1)) 17 2 (φ 69 2)) 17 3 (φ 69 3)) := fr_up r5 (by decide)
  have i8 : Inv (hf_up (hf_up (hf_up (hf_up (hf_up φ 17 0 (φ 69 0)) 17 1 (φ 69 1)) 17 2 (φ 69 2)) 17 3 (φ 69 3)) 17 4 (φ 69 4)) := iv_upn i7 (by decide) (by decide) (by decide +kernel)
  have r8 : Fr [18, 19, 20, 21, 22, 23, 24, 25, 18000, 18001, 18002, 18003, 18004, 18005] φ (hf_up (hf_up (hf_up (hf_up (hf_up φ 17 0 (φ 69 0)) 17 1 (φ 69 1)) 17 2 (φ 69 2)) 17 3 (φ 69 3)) 17 4 (φ 69 4)) := fr_up r7 (by decide)
  have i9 : Inv (hf_up (hf_up (hf_up (hf_up (hf_up (hf_up φ 17 0 (φ 69 0)) 17 1 (φ 69 1)) 17 2 (φ 69 2)) 17 3 (φ 69 3)) 17 4 (φ 69 4)) 17 5 (φ 69 5)) := iv_upn i8 (by decide) (by decide) (by decide +kernel)
  have r9 : Fr [18, 19, 20, 21, 22, 23, 24, 25, 18000, 18001, 18002, 18003, 18004, 18005] φ (hf_up (hf_up (hf_up (hf_up (hf_up (hf_up φ 17 0 (φ 69 0)) 17 1 (φ 69 1)) 17 2 (φ 69 2)) 17 3 (φ 69 3)) 17 4 (φ 69 4)) 17 5 (φ 69 5)) := fr_up r8 (by decide)
  have i10 : Inv (hf_cp (hf_up (hf_up (hf_up (hf_up (hf_up (hf_up φ 17 0 (φ 69 0)) 17 1 (φ 69 1)) 17 2 (φ 69 2)) 17 3 (φ 69 3)) 17 4 (φ 69 4)) 17 5 (φ 69 5)) 70 18 8) := iv_cp i9 (by decide) (by decide +kernel)
  have r10 : Fr [18, 19, 20, 21, 22, 23, 24, 25, 18000, 18001, 18002, 18003, 18004, 18005] φ (hf_cp (hf_up (hf_up (hf_up (hf_up (hf_up (hf_up φ 17 0 (φ 69 0)) 17 1 (φ 69 1)) 17 2 (φ 69 2)) 17 3 (φ 69 3)) 17 4 (φ 69 4)) 17 5 (φ 69 5)) 70 18 8) := fr_cp r9 (by decide)
  have i11 : Inv (hf_cp (hf_cp (hf_up (hf_up (hf_up (hf_up (hf_up (hf_up φ 17 0 (φ 69 0)) 17 1 (φ 69 1)) 17 2 (φ 69 2)) 17 3 (φ 69 3)) 17 4 (φ 69 4)) 17 5 (φ 69 5)) 70 18 8) 71 19 8) := iv_cp i10 (by decide) (by decide +kernel)
  have r11 : Fr [18, 19, 20, 21, 22, 23, 24, 25, 18000, 18001, 18002, 18003, 18004, 18005] φ (hf_cp (hf_cp (hf_up (hf_up (hf_up (hf_up (hf_up (hf_up φ 17 0 (φ 69 0)) 17 1 (φ 69 1)) 17 2 (φ 69 2)) 17 3 (φ 69 3)) 17 4 (φ 69 4)) 17 5 (φ 69 5)) 70 18 8) 71 19 8) := fr_cp r10 (by decide)
  have i12 : Inv (hf_cp (hf_cp (hf_cp (hf_up (hf_up (hf_up (hf_up (hf_up (hf_up φ 17 0 (φ 69 0)) 17 1 (φ 69 1)) 17 2 (φ 69 2)) 17 3 (φ 69 3)) 17 4 (φ 69 4)) 17 5 (φ 69 5)) 70 18 8) 71 19 8) 72 20 6) := iv_cp i11 (by decide) (by decide +kernel)
  have r12 : Fr [18, 19, 20, 21, 22, 23, 24, 25, 18000, 18001, 18002, 18003, 18004, 18005] φ (hf_cp (hf_cp (hf_cp (hf_up (hf_up (hf_up (hf_up (hf_up (hf_up φ 17 0 (φ 69 0)) 17 1 (φ 69 1)) 17 2 (φ 69 2)) 17 3 (φ 69 3)) 17 4 (φ 69 4)) 17 5 (φ 69 5)) 70 18 8) 71 19 8) 72 20 6) := fr_cp r11 (by decide)
  have i13 : Inv (hf_cp (hf_cp (hf_cp (hf_cp (hf_up (hf_up (hf_up (hf_up (hf_up (hf_up φ 17 0 (φ 69 0)) 17 1 (φ 69 1)) 17 2 (φ 69 2)) 17 3 (φ 69 3)) 17 4 (φ 69 4)) 17 5 (φ 69 5)) 70 18 8) 71 19 8) 72 20 6) 73 21 6) := iv_cp i12 (by decide) (by decide +kernel)
  have r13 : Fr [18, 19, 20, 21, 22, 23, 24, 25, 18000, 18001, 18002, 18003, 18004, 18005] φ (hf_cp (hf_cp (hf_cp (hf_cp (hf_up (hf_up (hf_up (hf_up (hf_up (hf_up φ 17 0 (φ 69 0)) 17 1 (φ 69 1)) 17 2 (φ 69 2)) 17 3 (φ 69 3)) 17 4 (φ 69 4)) 17 5 (φ 69 5)) 70 18 8) 71 19 8) 72 20 6) 73 21 6) := fr_cp r12 (by decide)
  have i14 : Inv (hf_cp (hf_cp (hf_cp (hf_cp (hf_cp (hf_up (hf_up (hf_up (hf_up (hf_up (hf_up φ 17 0 (φ 69 0)) 17 1 (φ 69 1)) 17 2 (φ 69 2)) 17 3 (φ 69 3)) 17 4 (φ 69 4)) 17 5 (φ 69 5)) 70 18 8) 71 19 8) 72 20 6) 73 21 6) 74 22 36) := iv_cp i13 (by decide) (by decide +kernel)
  have r14 : Fr [18, 19, 20, 21, 22, 23, 24, 25, 18000, 18001, 18002, 18003, 18004, 18005] φ (hf_cp (hf_cp (hf_cp (hf_cp (hf_cp (hf_up (hf_up (hf_up (hf_up (hf_up (hf_up φ 17 0 (φ 69 0)) 17 1 (φ 69 1)) 17 2 (φ 69 2)) 17 3 (φ 69 3)) 17 4 (φ 69 4)) 17 5 (φ 69 5)) 70 18 8) 71 19 8) 72 20 6) 73 21 6) 74 22 36) := fr_cp r13 (by decide)
  have i15 : Inv (hf_cp (hf_cp (hf_cp (hf_cp (hf_cp (hf_cp (hf_up (hf_up (hf_up (hf_up (hf_up (hf_up φ 17 0 (φ 69 0)) 17 1 (φ 69 1)) 17 2 (φ 69 2)) 17 3 (φ 69 3)) 17 4 (φ 69 4)) 17 5 (φ 69 5)) 70 18 8) 71 19 8) 72 20 6) 73 21 6) 74 22 36) 75 23 6) := iv_cp i14 (by decide) (by decide +kernel)
  have r15 : Fr [18, 19, 20, 21, 22, 23, 24, 25, 18000, 18001, 18002, 18003, 18004, 18005] φ (hf_cp (hf_cp (hf_cp (hf_cp (hf_cp (hf_cp (hf_up (hf_up (hf_up (hf_up (hf_up (hf_up φ 17 0 (φ 69 0)) 17 1 (φ 69 1)) 17 2 (φ 69 2)) 17 3 (φ 69 3)) 17 4 (φ 69 4)) 17 5 (φ 69 5)) 70 18 8) 71 19 8) 72 20 6) 73 21 6) 74 22 36) 75 23 6) := fr_cp r14 (by decide)
  have i16 : Inv (hf_cp (hf_cp (hf_cp (hf_cp (hf_cp (hf_cp (hf_cp (hf_up (hf_up (hf_up (hf_up (hf_up (hf_up φ 17 0 (φ 69 0)) 17 1 (φ 69 1)) 17 2 (φ 69 2)) 17 3 (φ 69 3)) 17 4 (φ 69 4)) 17 5 (φ 69 5)) 70 18 8) 71 19 8) 72 20 6) 73 21 6) 74 22 36) 75 23 6) 76 24 6) := iv_cp i15 (by decide) (by decide +kernel)
  have r16 : Fr [18, 19, 20, 21, 22, 23, 24, 25, 18000, 18001, 18002, 18003, 18004, 18005] φ (hf_cp (hf_cp (hf_cp (hf_cp (hf_cp (hf_cp (hf_cp (hf_up (hf_up (hf_up (hf_up (hf_up (hf_up φ 17 0 (φ 69 0)) 17 1 (φ 69 1)) 17 2 (φ 69 2)) 17 3 (φ 69 3)) 17 4 (φ 69 4)) 17 5 (φ 69 5)) 70 18 8) 71 19 8) 72 20 6) 73 21 6) 74 22 36) 75 23 6) 76 24 6) := fr_cp r15 (by decide)
  have i17 : Inv (hf_cp (hf_cp (hf_cp (hf_cp (hf_cp (hf_cp (hf_cp (hf_cp (hf_up (hf_up (hf_up (hf_up (hf_up (hf_up φ 17 0 (φ 69 0)) 17 1 (φ 69 1)) 17 2 (φ 69 2)) 17 3 (φ 69 3)) 17 4 (φ 69 4)) 17 5 (φ 69 5)) 70 18 8) 71 19 8) 72 20 6) 73 21 6) 74 22 36) 75 23 6) 76 24 6) 77 25 8) := iv_cp i16 (by decide) (by decide +kernel)
  have r17 : Fr [18, 19, 20, 21, 22, 23, 24, 25, 18000, 18001, 18002, 18003, 18004, 18005] φ (hf_cp (hf_cp (hf_cp (hf_cp (hf_cp (hf_cp (hf_cp (hf_cp (hf_up (hf_up (hf_up (hf_up (hf_up (hf_up φ 17 0 (φ 69 0)) 17 1 (φ 69 1)) 17 2 (φ 69 2)) 17 3 (φ 69 3)) 17 4 (φ 69 4)) 17 5 (φ 69 5)) 70 18 8) 71 19 8) 72 20 6) 73 21 6) 74 22 36) 75 23 6) 76 24 6) 77 25 8) := fr_cp r16 (by decide)
  exact hQ (hf_cp (hf_cp (hf_cp (hf_cp (hf_cp (hf_cp (hf_cp (hf_cp (hf_up (hf_up (hf_up (hf_up (hf_up (hf_up φ 17 0 (φ 69 0)) 17 1 (φ 69 1)) 17 2 (φ 69 2)) 17 3 (φ 69 3)) 17 4 (φ 69 4)) 17 5 (φ 69 5)) 70 18 8) 71 19 8) 72 20 6) 73 21 6) 74 22 36) 75 23 6) 76 24 6) 77 25 8) i17 r17 e0
theorem sf_67_26_78_v {sc : List Int} {d : Nat} {φ : hf_F} {x : Nat} {Q : Option jm_V → hf_F → Nat → Prop} 
    (H : ((φ 78 5) = 0 ∨ (φ 78 5) = 1) ∧ (Q none (hf_up (hf_up (hf_up (hf_cp (hf_cp (hf_cp φ 79 27 40) 80 28 40) 81 29 40) 26 3 (φ 78 3)) 26 4 (φ 78 4)) 26 5 (φ 78 5)) x)) :
    hw sc d 67 0 [(0, (2, 26)), (1, (2, 78))] [] φ x Q := by
  refine hw_ald (b := 1) (e := 0) (by decide +kernel) rfl (by decide) ?_
  refine hr_gr (w := 79) (b := 5) (e := 0) 78 rfl (by decide +kernel) ?_
  refine hw_k (c := 0) (b := 0) (e := 1) (by decide +kernel) ?_
  refine hw_ald (b := 0) (e := 0) (by decide +kernel) rfl (by decide) ?_
  refine hr_gr (w := 27) (b := 5) (e := 0) 26 rfl (by decide +kernel) ?_
  refine hw_k (c := 0) (b := 0) (e := 1) (by decide +kernel) ?_
  refine hw_k (c := 40) (b := 1) (e := 2) (by decide +kernel) ?_
  refine hr_cp (a0 := 0) (b0 := 0) (e := 0) 79 27 40 rfl rfl rfl (by decide +kernel) (Nat.le_of_ble_eq_true rfl) ?_
  refine hw_ald (b := 1) (e := 0) (by decide +kernel) rfl (by decide) ?_
  refine hr_gr (w := 80) (b := 5) (e := 1) 78 rfl (by decide +kernel) ?_
  refine hw_k (c := 0) (b := 0) (e := 1) (by decide +kernel) ?_
  refine hw_ald (b := 0) (e := 0) (by decide +kernel) rfl (by decide) ?_
  refine hr_gr (w := 28) (b := 5) (e := 1) 26 rfl (by decide +kernel) ?_
  refine hw_k (c := 0) (b := 0) (e := 1) (by decide +kernel) ?_
  refine hw_k (c := 40) (b := 1) (e := 2) (by decide +kernel) ?_
  refine hr_cp (a0 := 0) (b0 := 0) (e := 0) 80 28 40 rfl rfl rfl (by decide +kernel) (Nat.le_of_ble_eq_true rfl) ?_
  refine hw_ald (b := 1) (e := 0) (by decide +kernel) rfl (by decide) ?_
  refine hr_gr (w := 81) (b := 5) (e := 2) 78 rfl (by decide +kernel) ?_
  refine hw_k (c := 0) (b := 0) (e := 1) (by decide +kernel) ?_
  refine hw_ald (b := 0) (e := 0) (by decide +kernel) rfl (by decide) ?_
  refine hr_gr (w := 29) (b := 5) (e := 2) 26 rfl (by decide +kernel) ?_
  refine hw_k (c := 0) (b := 0) (e := 1) (by decide +kernel) ?_
  refine hw_k (c := 40) (b := 1) (e := 2) (by decide +kernel) ?_
  refine hr_cp (a0 := 0) (b0 := 0) (e := 0) 81 29 40 rfl rfl rfl (by decide +kernel) (Nat.le_of_ble_eq_true rfl) ?_
  refine hw_ald (b := 0) (e := 0) (by decide +kernel) rfl (by decide) ?_
  refine hw_ald (b := 1) (e := 0) (by decide +kernel) rfl (by decide) ?_
  refine hr_gi (w := φ 78 3) (b := 5) (e := 3) 78 rfl (by decide +kernel) ((hf_cp_ne (fun q => absurd q.1 (by decide))).trans ((hf_cp_ne (fun q => absurd q.1 (by decide))).trans (hf_cp_ne (fun q => absurd q.1 (by decide))))) ?_
  refine hr_pi (b := 5) (e := 3) 26 rfl (by decide +kernel) ?_
  refine hw_ald (b := 0) (e := 0) (by decide +kernel) rfl (by decide) ?_
  refine hw_ald (b := 1) (e := 0) (by decide +kernel) rfl (by decide) ?_
  refine hr_gi (w := φ 78 4) (b := 5) (e := 4) 78 rfl (by decide +kernel) ((hf_up_ne (fun q => absurd q.1 (by decide))).trans ((hf_cp_ne (fun q => absurd q.1 (by decide))).trans ((hf_cp_ne (fun q => absurd q.1 (by decide))).trans (hf_cp_ne (fun q => absurd q.1 (by decide)))))) ?_
  refine hr_pi (b := 5) (e := 4) 26 rfl (by decide +kernel) ?_
  refine hw_ald (b := 0) (e := 0) (by decide +kernel) rfl (by decide) ?_
  refine hw_ald (b := 1) (e := 0) (by decide +kernel) rfl (by decide) ?_
  refine hr_gz (w := φ 78 5) (b := 5) (e := 5) 78 rfl (by decide +kernel) ((hf_up_ne (fun q => absurd q.1 (by decide))).trans ((hf_up_ne (fun q => absurd q.1 (by decide))).trans ((hf_cp_ne (fun q => absurd q.1 (by decide))).trans ((hf_cp_ne (fun q => absurd q.1 (by decide))).trans (hf_cp_ne (fun q => absurd q.1 (by decide))))))) ?_
  obtain ⟨h01_1, H⟩ := H
  refine hr_pz (b := 5) (e := 5) 26 rfl (by decide +kernel) h01_1 ?_
  exact hw_vret (a0 := 0) (e := 0) (by decide +kernel) H
theorem sf_67_26_78 {sc : List Int} {d : Nat} {φ : hf_F} {x : Nat} {Q : Option jm_V → hf_F → Nat → Prop}  (hI : Inv φ)  (hQ : ∀ ψ : hf_F, Inv ψ → Fr [27, 28, 29, 27003, 27004, 27005] φ ψ → F_Sentence_copyFrom_26_78 φ = ψ → Q none ψ x) : hw sc d 67 0 [(0, (2, 26)), (1, (2, 78))] [] φ x Q := by
  apply sf_67_26_78_v
  have e0 : F_Sentence_copyFrom_26_78 φ = _ := rfl
  have i1 : Inv (hf_cp φ 79 27 40) := iv_cp hI (by decide) (by decide +kernel)
  have r1 : Fr [27, 28, 29, 27003, 27004, 27005] φ (hf_cp φ 79 27 40) := fr_cp (fr_rf) (by decide)
  have i2 : Inv (hf_cp (hf_cp φ 79 27 40) 80 28 40) := iv_cp i1 (by decide) (by decide +kernel)
  have r2 : Fr [27, 28, 29, 27003, 27004, 27005] φ (hf_cp (hf_cp φ 79 27 40) 80 28 40) := fr_cp r1 (by decide)
  have i3 : Inv (hf_cp (hf_cp (hf_cp φ 79 27 40) 80 28 40) 81 29 40) := iv_cp i2 (by decide) (by decide +kernel)
  have r3 : Fr [27, 28, 29, 27003, 27004, 27005] φ (hf_cp (hf_cp (hf_cp φ 79 27 40) 80 28 40) 81 29 40) := fr_cp r2 (by decide)
  have f4 := iv_at (a := 78) (k := 3) (lo := 0) (u := 40) hI (by decide +kernel)
  have i5 : Inv (hf_up (hf_cp (hf_cp (hf_cp φ 79 27 40) 80 28 40) 81 29 40) 26 3 (φ 78 3)) := iv_up (lo := 0) (u := 40) i3 (by decide +kernel) (by omega) (by omega)
  have r5 : Fr [27, 28, 29, 27003, 27004, 27005] φ (hf_up (hf_cp (hf_cp (hf_cp φ 79 27 40) 80 28 40) 81 29 40) 26 3 (φ 78 3)) := fr_up r3 (by decide)
  have f6 := iv_at (a := 78) (k := 4) (lo := 0) (u := 20) hI (by decide +kernel)
  have i7 : Inv (hf_up (hf_up (hf_cp (hf_cp (hf_cp φ 79 27 40) 80 28 40) 81 29 40) 26 3 (φ 78 3)) 26 4 (φ 78 4)) := iv_up (lo := 0) (u := 20) i5 (by decide +kernel) (by omega) (by omega)
  have r7 : Fr [27, 28, 29, 27003, 27004, 27005] φ (hf_up (hf_up (hf_cp (hf_cp (hf_cp φ 79 27 40) 80 28 40) 81 29 40) 26 3 (φ 78 3)) 26 4 (φ 78 4)) := fr_up r5 (by decide)
  have f8 := iv_at (a := 78) (k := 5) (lo := 0) (u := 1) hI (by decide +kernel)
  refine ⟨by omega, ?_⟩
  have i9 : Inv (hf_up (hf_up (hf_up (hf_cp (hf_cp (hf_cp φ 79 27 40) 80 28 40) 81 29 40) 26 3 (φ 78 3)) 26 4 (φ 78 4)) 26 5 (φ 78 5)) := iv_up (lo := 0) (u := 1) i7 (by decide +kernel) (by omega) (by omega)
  have r9 : Fr [27, 28, 29, 27003, 27004, 27005] φ (hf_up (hf_up (hf_up (hf_cp (hf_cp (hf_cp φ 79 27 40) 80 28 40) 81 29 40) 26 3 (φ 78 3)) 26 4 (φ 78 4)) 26 5 (φ 78 5)) := fr_up r7 (by decide)
  exact hQ (hf_up (hf_up (hf_up (hf_cp (hf_cp (hf_cp φ 79 27 40) 80 28 40) 81 29 40) 26 3 (φ 78 3)) 26 4 (φ 78 4)) 26 5 (φ 78 5)) i9 r9 e0
theorem sf_64_4_56_v {sc : List Int} {d : Nat} {φ : hf_F} {x : Nat} {Q : Option jm_V → hf_F → Nat → Prop} 
    (H : hw sc d 65 0 [(0, (2, 5)), (1, (2, 57))] [] φ x (fun r ψ1 y1 => y1 = x ∧ (r = none ∧ (hw sc d 66 0 [(0, (2, 17)), (1, (2, 69))] [] ψ1 x (fun r ψ2 y2 => y2 = x ∧ (r = none ∧ (hw sc d 67 0 [(0, (2, 26)), (1, (2, 78))] [] ψ2 x (fun r ψ3 y3 => y3 = x ∧ (r = none ∧ (Q none ψ3 x)))))))))) :
    hw sc (d + 1) 64 0 [(0, (2, 4)), (1, (2, 56))] [] φ x Q := by
  refine hw_ald (b := 0) (e := 0) (by decide +kernel) rfl (by decide) ?_
  refine hr_gr (w := 5) (b := 2) (e := 0) 4 rfl (by decide +kernel) ?_
  refine hw_ald (b := 1) (e := 0) (by decide +kernel) rfl (by decide) ?_
  refine hr_gr (w := 57) (b := 2) (e := 0) 56 rfl (by decide +kernel) ?_
  refine hr_call (a0 := 13) (b := 65) (e := 2) (nl := 2) (As := [(2, 57)]) (R := []) 5 rfl (by decide +kernel) rfl rfl (Nat.le_of_ble_eq_true rfl) (Nat.le_of_ble_eq_true rfl) ?_
  refine hw_mono H ?_
  rintro r ψ1 y1 ⟨hyx, hr, H⟩
  subst hyx
  subst hr
  refine ⟨hnen, ?_⟩
  show hw sc (d + 1) 64 11 [(0, (2, 4)), (1, (2, 56))] [] ψ1 y1 Q
  refine hw_ald (b := 0) (e := 0) (by decide +kernel) rfl (by decide) ?_
  refine hr_gr (w := 17) (b := 2) (e := 1) 4 rfl (by decide +kernel) ?_
  refine hw_ald (b := 1) (e := 0) (by decide +kernel) rfl (by decide) ?_
  refine hr_gr (w := 69) (b := 2) (e := 1) 56 rfl (by decide +kernel) ?_
  refine hr_call (a0 := 14) (b := 66) (e := 2) (nl := 2) (As := [(2, 69)]) (R := []) 17 rfl (by decide +kernel) rfl rfl (Nat.le_of_ble_eq_true rfl) (Nat.le_of_ble_eq_true rfl) ?_
  refine hw_mono H ?_
  rintro r ψ2 y2 ⟨hyx, hr, H⟩
  subst hyx
  subst hr
  refine ⟨hnen, ?_⟩
  show hw sc (d + 1) 64 22 [(0, (2, 4)), (1, (2, 56))] [] ψ2 y2 Q
  refine hw_ald (b := 0) (e := 0) (by decide +kernel) rfl (by decide) ?_
  refine hr_gr (w := 26) (b := 2) (e := 2) 4 rfl (by decide +kernel) ?_
  refine hw_ald (b := 1) (e := 0) (by decide +kernel) rfl (by decide) ?_
  refine hr_gr (w := 78) (b := 2) (e := 2) 56 rfl (by decide +kernel) ?_
  refine hr_call (a0 := 15) (b := 67) (e := 2) (nl := 2) (As := [(2, 78)]) (R := []) 26 rfl (by decide +kernel) rfl rfl (Nat.le_of_ble_eq_true rfl) (Nat.le_of_ble_eq_true rfl) ?_
  refine hw_mono H ?_
  rintro r ψ3 y3 ⟨hyx, hr, H⟩
  subst hyx
  subst hr
  refine ⟨hnen, ?_⟩
  show hw sc (d + 1) 64 33 [(0, (2, 4)), (1, (2, 56))] [] ψ3 y3 Q
  exact hw_vret (a0 := 0) (e := 0) (by decide +kernel) H
theorem sf_64_4_56 {sc : List Int} {d : Nat} {φ : hf_F} {x : Nat} {Q : Option jm_V → hf_F → Nat → Prop}  (hI : Inv φ)  (hQ : ∀ ψ : hf_F, Inv ψ → Fr [6, 7, 8, 9, 10, 11, 12, 13, 14, 15, 16, 18, 19, 20, 21, 22, 23, 24, 25, 27, 28, 29, 18000, 18001, 18002, 18003, 18004, 18005, 27003, 27004, 27005] φ ψ → F_Scene_copyFrom_4_56 φ = ψ → Q none ψ x) : hw sc (d + 1) 64 0 [(0, (2, 4)), (1, (2, 56))] [] φ x Q := by
  apply sf_64_4_56_v
  have e0 : F_Scene_copyFrom_4_56 φ = _ := rfl
  refine sf_65_5_57 (φ := φ) hI  (fun ψ1 hI1 hF1 hE1 => ⟨rfl, rfl, ?_⟩)
  have hG1 : Fr [6, 7, 8, 9, 10, 11, 12, 13, 14, 15, 16, 18, 19, 20, 21, 22, 23, 24, 25, 27, 28, 29, 18000, 18001, 18002, 18003, 18004, 18005, 27003, 27004, 27005] φ ψ1 := fr_tr (fr_rf) hF1 (by decide)
  have e1 := e0.trans (bnv_e hE1)
  refine sf_66_17_69 (φ := ψ1) hI1  (fun ψ2 hI2 hF2 hE2 => ⟨rfl, rfl, ?_⟩)
  have hG2 : Fr [6, 7, 8, 9, 10, 11, 12, 13, 14, 15, 16, 18, 19, 20, 21, 22, 23, 24, 25, 27, 28, 29, 18000, 18001, 18002, 18003, 18004, 18005, 27003, 27004, 27005] φ ψ2 := fr_tr hG1 hF2 (by decide)
  have e2 := e1.trans (bnv_e hE2)
  refine sf_67_26_78 (φ := ψ2) hI2  (fun ψ3 hI3 hF3 hE3 => ⟨rfl, rfl, ?_⟩)
  have hG3 : Fr [6, 7, 8, 9, 10, 11, 12, 13, 14, 15, 16, 18, 19, 20, 21, 22, 23, 24, 25, 27, 28, 29, 18000, 18001, 18002, 18003, 18004, 18005, 27003, 27004, 27005] φ ψ3 := fr_tr hG2 hF3 (by decide)
  have e3 := e2.trans (bnv_e hE3)
  exact hQ ψ3 hI3 hG3 e3
theorem sf_157_0_v {sc : List Int} {d : Nat} {φ : hf_F} {x : Nat} {Q : Option jm_V → hf_F → Nat → Prop} {v1 : Int}
    (H : hi v1 ∧ (v1 = 0 → hi v1 ∧ (¬ v1 = 0 → hi (φ 82 3) ∧ (¬ (φ 82 3) = 0 → hw sc (d + 1) 64 0 [(0, (2, 4)), (1, (2, 82))] [] φ x (fun r ψ4 y4 => y4 = x ∧ (r = none ∧ (Q (some (0, 1)) (hf_up ψ4 108 1 0) x)))) ∧ (¬ (¬ (φ 82 3) = 0) → Q (some (0, 0)) φ x)) ∧ (¬ (¬ v1 = 0) → hi (φ 56 3) ∧ (¬ (φ 56 3) = 0 → hw sc (d + 1) 64 0 [(0, (2, 4)), (1, (2, 56))] [] φ x (fun r ψ8 y8 => y8 = x ∧ (r = none ∧ (Q (some (0, 1)) (hf_up ψ8 108 1 0) x)))) ∧ (¬ (¬ (φ 56 3) = 0) → Q (some (0, 0)) φ x))) ∧ (¬ v1 = 0 → hi v1 ∧ hi 1 ∧ (v1 = 1 → hi v1 ∧ (¬ v1 = 0 → hi (φ 82 3) ∧ (¬ (φ 82 3) = 0 → hw sc (d + 1) 64 0 [(0, (2, 4)), (1, (2, 82))] [] φ x (fun r ψ14 y14 => y14 = x ∧ (r = none ∧ (Q (some (0, 1)) (hf_up ψ14 108 1 0) x)))) ∧ (¬ (¬ (φ 82 3) = 0) → Q (some (0, 0)) φ x)) ∧ (¬ (¬ v1 = 0) → hi (φ 56 3) ∧ (¬ (φ 56 3) = 0 → hw sc (d + 1) 64 0 [(0, (2, 4)), (1, (2, 56))] [] φ x (fun r ψ18 y18 => y18 = x ∧ (r = none ∧ (Q (some (0, 1)) (hf_up ψ18 108 1 0) x)))) ∧ (¬ (¬ (φ 56 3) = 0) → Q (some (0, 0)) φ x))) ∧ (¬ v1 = 1 → Q (some (0, 0)) φ x))) :
    hw sc (d + 2) 157 0 [(0, (2, 0)), (1, (0, v1))] [] φ x Q := by
  refine hw_ld (b := 1) (e := 0) (by decide +kernel) rfl ?_
  obtain ⟨hz1, ht1, hf1⟩ := H
  refine hw_if (a0 := 0) (b := 0) (e := 11) (by decide +kernel) hz1 (fun q => ?_) (fun q => ?_)
  · have H := ht1 q
    refine hw_ld (b := 1) (e := 0) (by decide +kernel) rfl ?_
    obtain ⟨hz2, ht2, hf2⟩ := H
    refine hw_if (a0 := 0) (b := 1) (e := 22) (by decide +kernel) hz2 (fun q => ?_) (fun q => ?_)
    · have H := ht2 q
      refine hw_ald (b := 0) (e := 0) (by decide +kernel) rfl (by decide) ?_
      refine hr_gr (w := 82) (b := 0) (e := 4) 0 rfl (by decide +kernel) ?_
      refine hw_ast (L' := (jm_st1 [(0, (2, 0)), (1, (0, v1))] 2 (2, 82))) (b := 2) (e := 0) (by decide +kernel) rfl (by decide) ?_
      refine hw_ald (b := 2) (e := 0) (by decide +kernel) get_st1e (by decide) ?_
      refine hr_gz (w := φ 82 3) (b := 2) (e := 3) 82 rfl (by decide +kernel) rfl ?_
      obtain ⟨hz3, ht3, hf3⟩ := H
      refine hw_if (a0 := 0) (b := 1) (e := 36) (by decide +kernel) hz3 (fun q => ?_) (fun q => ?_)
      · have H := ht3 q
        refine hw_ald (b := 0) (e := 0) (by decide +kernel) (get_st1 rfl (by decide) (fun q => absurd q.1 (by decide))) (by decide) ?_
        refine hr_gr (w := 4) (b := 0) (e := 1) 0 rfl (by decide +kernel) ?_
        refine hw_ald (b := 2) (e := 0) (by decide +kernel) get_st1e (by decide) ?_
        refine hr_call (a0 := 12) (b := 64) (e := 2) (nl := 2) (As := [(2, 82)]) (R := []) 4 rfl (by decide +kernel) rfl rfl (Nat.le_of_ble_eq_true rfl) (Nat.le_of_ble_eq_true rfl) ?_
        refine hw_mono H ?_
        rintro r ψ4 y4 ⟨hyx, hr, H⟩
        subst hyx
        subst hr
        refine ⟨hnen, ?_⟩
        show hw sc (d + 2) 157 44 (jm_st1 [(0, (2, 0)), (1, (0, v1))] 2 (2, 82)) [] ψ4 y4 Q
        refine hw_ald (b := 0) (e := 0) (by decide +kernel) (get_st1 rfl (by decide) (fun q => absurd q.1 (by decide))) (by decide) ?_
        refine hr_gr (w := 108) (b := 0) (e := 5) 0 rfl (by decide +kernel) ?_
        refine hw_k (c := 0) (b := 0) (e := 1) (by decide +kernel) ?_
        refine hr_pi (b := 6) (e := 1) 108 rfl (by decide +kernel) ?_
        refine hw_k (c := 1) (b := 0) (e := 1) (by decide +kernel) ?_
        exact hw_ret (a0 := 0) (e := 1) (by decide +kernel) (Or.inr ⟨rfl, by decide⟩) H
      · have H := hf3 q
        refine hw_k (c := 0) (b := 0) (e := 1) (by decide +kernel) ?_
        exact hw_ret (a0 := 0) (e := 1) (by decide +kernel) (Or.inr ⟨rfl, by decide⟩) H
    · have H := hf2 q
      refine hw_ald (b := 0) (e := 0) (by decide +kernel) rfl (by decide) ?_
      refine hr_gr (w := 56) (b := 0) (e := 3) 0 rfl (by decide +kernel) ?_
      refine hw_goto (a0 := 0) (b := 0) (e := 26) (by decide +kernel) ?_
      refine hw_ast (L' := (jm_st1 [(0, (2, 0)), (1, (0, v1))] 2 (2, 56))) (b := 2) (e := 0) (by decide +kernel) rfl (by decide) ?_
      refine hw_ald (b := 2) (e := 0) (by decide +kernel) get_st1e (by decide) ?_
      refine hr_gz (w := φ 56 3) (b := 2) (e := 3) 56 rfl (by decide +kernel) rfl ?_
      obtain ⟨hz7, ht7, hf7⟩ := H
      refine hw_if (a0 := 0) (b := 1) (e := 36) (by decide +kernel) hz7 (fun q => ?_) (fun q => ?_)
      · have H := ht7 q
        refine hw_ald (b := 0) (e := 0) (by decide +kernel) (get_st1 rfl (by decide) (fun q => absurd q.1 (by decide))) (by decide) ?_
        refine hr_gr (w := 4) (b := 0) (e := 1) 0 rfl (by decide +kernel) ?_
        refine hw_ald (b := 2) (e := 0) (by decide +kernel) get_st1e (by decide) ?_
        refine hr_call (a0 := 12) (b := 64) (e := 2) (nl := 2) (As := [(2, 56)]) (R := []) 4 rfl (by decide +kernel) rfl rfl (Nat.le_of_ble_eq_true rfl) (Nat.le_of_ble_eq_true rfl) ?_
        refine hw_mono H ?_
        rintro r ψ8 y8 ⟨hyx, hr, H⟩
        subst hyx
        subst hr
        refine ⟨hnen, ?_⟩
        show hw sc (d + 2) 157 44 (jm_st1 [(0, (2, 0)), (1, (0, v1))] 2 (2, 56)) [] ψ8 y8 Q
        refine hw_ald (b := 0) (e := 0) (by decide +kernel) (get_st1 rfl (by decide) (fun q => absurd q.1 (by decide))) (by decide) ?_
        refine hr_gr (w := 108) (b := 0) (e := 5) 0 rfl (by decide +kernel) ?_
        refine hw_k (c := 0) (b := 0) (e := 1) (by decide +kernel) ?_
        refine hr_pi (b := 6) (e := 1) 108 rfl (by decide +kernel) ?_
        refine hw_k (c := 1) (b := 0) (e := 1) (by decide +kernel) ?_
        exact hw_ret (a0 := 0) (e := 1) (by decide +kernel) (Or.inr ⟨rfl, by decide⟩) H
      · have H := hf7 q
        refine hw_k (c := 0) (b := 0) (e := 1) (by decide +kernel) ?_
        exact hw_ret (a0 := 0) (e := 1) (by decide +kernel) (Or.inr ⟨rfl, by decide⟩) H
  · have H := hf1 q
    refine hw_ld (b := 1) (e := 0) (by decide +kernel) rfl ?_
    refine hw_k (c := 1) (b := 0) (e := 1) (by decide +kernel) ?_
    obtain ⟨hz11, hy11, ht11, hf11⟩ := H
    refine hw_if2 (a0 := 0) (b := 0) (e := 11) (by decide +kernel) hz11 hy11 (fun q => ?_) (fun q => ?_)
    · have H := ht11 q
      refine hw_ld (b := 1) (e := 0) (by decide +kernel) rfl ?_
      obtain ⟨hz12, ht12, hf12⟩ := H
      refine hw_if (a0 := 0) (b := 1) (e := 22) (by decide +kernel) hz12 (fun q => ?_) (fun q => ?_)
      · have H := ht12 q
        refine hw_ald (b := 0) (e := 0) (by decide +kernel) rfl (by decide) ?_
        refine hr_gr (w := 82) (b := 0) (e := 4) 0 rfl (by decide +kernel) ?_
        refine hw_ast (L' := (jm_st1 [(0, (2, 0)), (1, (0, v1))] 2 (2, 82))) (b := 2) (e := 0) (by decide +kernel) rfl (by decide) ?_
        refine hw_ald (b := 2) (e := 0) (by decide +kernel) get_st1e (by decide) ?_
        refine hr_gz (w := φ 82 3) (b := 2) (e := 3) 82 rfl (by decide +kernel) rfl ?_
        obtain ⟨hz13, ht13, hf13⟩ := H
        refine hw_if (a0 := 0) (b := 1) (e := 36) (by decide +kernel) hz13 (fun q => ?_) (fun q => ?_)
        · have H := ht13 q
          refine hw_ald (b := 0) (e := 0) (by decide +kernel) (get_st1 rfl (by decide) (fun q => absurd q.1 (by decide))) (by decide) ?_
          refine hr_gr (w := 4) (b := 0) (e := 1) 0 rfl (by decide +kernel) ?_
          refine hw_ald (b := 2) (e := 0) (by decide +kernel) get_st1e (by decide) ?_
          refine hr_call (a0 := 12) (b := 64) (e := 2) (nl := 2) (As := [(2, 82)]) (R := []) 4 rfl (by decide +kernel) rfl rfl (Nat.le_of_ble_eq_true rfl) (Nat.le_of_ble_eq_true rfl) ?_
          refine hw_mono H ?_
          rintro r ψ14 y14 ⟨hyx, hr, H⟩
          subst hyx
          subst hr
          refine ⟨hnen, ?_⟩
          show hw sc (d + 2) 157 44 (jm_st1 [(0, (2, 0)), (1, (0, v1))] 2 (2, 82)) [] ψ14 y14 Q
          refine hw_ald (b := 0) (e := 0) (by decide +kernel) (get_st1 rfl (by decide) (fun q => absurd q.1 (by decide))) (by decide) ?_
          refine hr_gr (w := 108) (b := 0) (e := 5) 0 rfl (by decide +kernel) ?_
          refine hw_k (c := 0) (b := 0) (e := 1) (by decide +kernel) ?_
          refine hr_pi (b := 6) (e := 1) 108 rfl (by decide +kernel) ?_
          refine hw_k (c := 1) (b := 0) (e := 1) (by decide +kernel) ?_
          exact hw_ret (a0 := 0) (e := 1) (by decide +kernel) (Or.inr ⟨rfl, by decide⟩) H
        · have H := hf13 q
          refine hw_k (c := 0) (b := 0) (e := 1) (by decide +kernel) ?_
          exact hw_ret (a0 := 0) (e := 1) (by decide +kernel) (Or.inr ⟨rfl, by decide⟩) H
      · have H := hf12 q
        refine hw_ald (b := 0) (e := 0) (by decide +kernel) rfl (by decide) ?_
        refine hr_gr (w := 56) (b := 0) (e := 3) 0 rfl (by decide +kernel) ?_
        refine hw_goto (a0 := 0) (b := 0) (e := 26) (by decide +kernel) ?_
        refine hw_ast (L' := (jm_st1 [(0, (2, 0)), (1, (0, v1))] 2 (2, 56))) (b := 2) (e := 0) (by decide +kernel) rfl (by decide) ?_
        refine hw_ald (b := 2) (e := 0) (by decide +kernel) get_st1e (by decide) ?_
        refine hr_gz (w := φ 56 3) (b := 2) (e := 3) 56 rfl (by decide +kernel) rfl ?_
        obtain ⟨hz17, ht17, hf17⟩ := H
        refine hw_if (a0 := 0) (b := 1) (e := 36) (by decide +kernel) hz17 (fun q => ?_) (fun q => ?_)
        · have H := ht17 q
          refine hw_ald (b := 0) (e := 0) (by decide +kernel) (get_st1 rfl (by decide) (fun q => absurd q.1 (by decide))) (by decide) ?_
          refine hr_gr (w := 4) (b := 0) (e := 1) 0 rfl (by decide +kernel) ?_
          refine hw_ald (b := 2) (e := 0) (by decide +kernel) get_st1e (by decide) ?_
          refine hr_call (a0 := 12) (b := 64) (e := 2) (nl := 2) (As := [(2, 56)]) (R := []) 4 rfl (by decide +kernel) rfl rfl (Nat.le_of_ble_eq_true rfl) (Nat.le_of_ble_eq_true rfl) ?_
          refine hw_mono H ?_
          rintro r ψ18 y18 ⟨hyx, hr, H⟩
          subst hyx
          subst hr
          refine ⟨hnen, ?_⟩
          show hw sc (d + 2) 157 44 (jm_st1 [(0, (2, 0)), (1, (0, v1))] 2 (2, 56)) [] ψ18 y18 Q
          refine hw_ald (b := 0) (e := 0) (by decide +kernel) (get_st1 rfl (by decide) (fun q => absurd q.1 (by decide))) (by decide) ?_
          refine hr_gr (w := 108) (b := 0) (e := 5) 0 rfl (by decide +kernel) ?_
          refine hw_k (c := 0) (b := 0) (e := 1) (by decide +kernel) ?_
          refine hr_pi (b := 6) (e := 1) 108 rfl (by decide +kernel) ?_
          refine hw_k (c := 1) (b := 0) (e := 1) (by decide +kernel) ?_
          exact hw_ret (a0 := 0) (e := 1) (by decide +kernel) (Or.inr ⟨rfl, by decide⟩) H
        · have H := hf17 q
          refine hw_k (c := 0) (b := 0) (e := 1) (by decide +kernel) ?_
          exact hw_ret (a0 := 0) (e := 1) (by decide +kernel) (Or.inr ⟨rfl, by decide⟩) H
    · have H := hf11 q
      refine hw_k (c := 0) (b := 0) (e := 1) (by decide +kernel) ?_
      exact hw_ret (a0 := 0) (e := 1) (by decide +kernel) (Or.inr ⟨rfl, by decide⟩) H
theorem sf_157_0 {sc : List Int} {d : Nat} {φ : hf_F} {x : Nat} {Q : Option jm_V → hf_F → Nat → Prop} {v1 : Int} (hI : Inv φ) (h1a : (-2147483648 : Int) ≤ v1) (h1b : v1 ≤ 2147483647) (hQ : ∀ (r : Int) (ψ : hf_F), Inv ψ → Fr [6, 7, 8, 9, 10, 11, 12, 13, 14, 15, 16, 18, 19, 20, 21, 22, 23, 24, 25, 27, 28, 29, 18000, 18001, 18002, 18003, 18004, 18005, 27003, 27004, 27005, 109001] φ ψ → 0 ≤ r ∧ r ≤ 1 ∧ ((r = 1 ∧ (v1 = 0 ∧ φ 56 3 = 1 ∨ v1 = 1 ∧ φ 82 3 = 1)) ∨ (r = 0 ∧ (¬ (v1 = 0 ∨ v1 = 1) ∨ v1 = 0 ∧ φ 56 3 = 0 ∨ v1 = 1 ∧ φ 82 3 = 0))) → F_RideLaws_restore_0 φ v1 = (r, ψ) → Q (some (0, r)) ψ x) : hw sc (d + 2) 157 0 [(0, (2, 0)), (1, (0, v1))] [] φ x Q := by
  apply sf_157_0_v
  have e0 : F_RideLaws_restore_0 φ v1 = _ := rfl
  refine ⟨by unfold hi; omega, fun q1 => ?_, fun q1 => ?_⟩
  · skip
    have e1a := e0.trans (if_pos q1)
    refine ⟨by unfold hi; omega, fun q2 => ?_, fun q2 => ?_⟩
    · skip
      have e2a := e1a.trans (if_pos q2)
      have f1 := iv_at (a := 82) (k := 3) (lo := 0) (u := 1) hI (by decide +kernel)
      refine ⟨by unfold hi; omega, fun q3 => ?_, fun q3 => ?_⟩
      · skip
        have e3a := e2a.trans (if_pos q3)
        refine sf_64_4_82 (φ := φ) hI  (fun ψ4 hI4 hF4 hE4 => ⟨rfl, rfl, ?_⟩)
        have hG4 : Fr [6, 7, 8, 9, 10, 11, 12, 13, 14, 15, 16, 18, 19, 20, 21, 22, 23, 24, 25, 27, 28, 29, 18000, 18001, 18002, 18003, 18004, 18005, 27003, 27004, 27005, 109001] φ ψ4 := fr_tr (fr_rf) hF4 (by decide)
        have e4 := e3a.trans (bnv_e hE4)
        have i2 : Inv (hf_up ψ4 108 1 0) := iv_up (lo := 0) (u := 8) hI4 (by decide +kernel) (by omega) (by omega)
        have r2 : Fr [6, 7, 8, 9, 10, 11, 12, 13, 14, 15, 16, 18, 19, 20, 21, 22, 23, 24, 25, 27, 28, 29, 18000, 18001, 18002, 18003, 18004, 18005, 27003, 27004, 27005, 109001] φ (hf_up ψ4 108 1 0) := fr_up hG4 (by decide)
        have f3 := iv_at (a := 56) (k := 3) (lo := 0) (u := 1) hI (by decide +kernel)
        exact hQ 1 (hf_up ψ4 108 1 0) i2 r2 ⟨by omega, by omega, by omega⟩ e4
      · skip
        have e3b := e2a.trans (if_neg q3)
        have f4 := iv_at (a := 56) (k := 3) (lo := 0) (u := 1) hI (by decide +kernel)
        exact hQ 0 φ hI (fr_rf) ⟨by omega, by omega, by omega⟩ e3b
    · skip
      have e2b := e1a.trans (if_neg q2)
      have f5 := iv_at (a := 56) (k := 3) (lo := 0) (u := 1) hI (by decide +kernel)
      refine ⟨by unfold hi; omega, fun q7 => ?_, fun q7 => ?_⟩
      · skip
        have e7a := e2b.trans (if_pos q7)
        refine sf_64_4_56 (φ := φ) hI  (fun ψ8 hI8 hF8 hE8 => ⟨rfl, rfl, ?_⟩)
        have hG8 : Fr [6, 7, 8, 9, 10, 11, 12, 13, 14, 15, 16, 18, 19, 20, 21, 22, 23, 24, 25, 27, 28, 29, 18000, 18001, 18002, 18003, 18004, 18005, 27003, 27004, 27005, 109001] φ ψ8 := fr_tr (fr_rf) hF8 (by decide)
        have e8 := e7a.trans (bnv_e hE8)
        have i6 : Inv (hf_up ψ8 108 1 0) := iv_up (lo := 0) (u := 8) hI8 (by decide +kernel) (by omega) (by omega)
        have r6 : Fr [6, 7, 8, 9, 10, 11, 12, 13, 14, 15, 16, 18, 19, 20, 21, 22, 23, 24, 25, 27, 28, 29, 18000, 18001, 18002, 18003, 18004, 18005, 27003, 27004, 27005, 109001] φ (hf_up ψ8 108 1 0) := fr_up hG8 (by decide)
        have f7 := iv_at (a := 82) (k := 3) (lo := 0) (u := 1) hI (by decide +kernel)
        exact hQ 1 (hf_up ψ8 108 1 0) i6 r6 ⟨by omega, by omega, by omega⟩ e8
      · skip
        have e7b := e2b.trans (if_neg q7)
        have f8 := iv_at (a := 82) (k := 3) (lo := 0) (u := 1) hI (by decide +kernel)
        exact hQ 0 φ hI (fr_rf) ⟨by omega, by omega, by omega⟩ e7b
  · skip
    have e1b := e0.trans (if_neg q1)
    refine ⟨by unfold hi; omega, by unfold hi; omega, fun q11 => ?_, fun q11 => ?_⟩
    · skip
      have e11a := e1b.trans (if_pos q11)
      refine ⟨by unfold hi; omega, fun q12 => ?_, fun q12 => ?_⟩
      · skip
        have e12a := e11a.trans (if_pos q12)
        have f9 := iv_at (a := 82) (k := 3) (lo := 0) (u := 1) hI (by decide +kernel)
        refine ⟨by unfold hi; omega, fun q13 => ?_, fun q13 => ?_⟩
        · skip
          have e13a := e12a.trans (if_pos q13)
          refine sf_64_4_82 (φ := φ) hI  (fun ψ14 hI14 hF14 hE14 => ⟨rfl, rfl, ?_⟩)
          have hG14 : Fr [6, 7, 8, 9, 10, 11, 12, 13, 14, 15, 16, 18, 19, 20, 21, 22, 23, 24, 25, 27, 28, 29, 18000, 18001, 18002, 18003, 18004, 18005, 27003, 27004, 27005, 109001] φ ψ14 := fr_tr (fr_rf) hF14 (by decide)
          have e14 := e13a.trans (bnv_e hE14)
          have i10 : Inv (hf_up ψ14 108 1 0) := iv_up (lo := 0) (u := 8) hI14 (by decide +kernel) (by omega) (by omega)
          have r10 : Fr [6, 7, 8, 9, 10, 11, 12, 13, 14, 15, 16, 18, 19, 20, 21, 22, 23, 24, 25, 27, 28, 29, 18000, 18001, 18002, 18003, 18004, 18005, 27003, 27004, 27005, 109001] φ (hf_up ψ14 108 1 0) := fr_up hG14 (by decide)
          have f11 := iv_at (a := 56) (k := 3) (lo := 0) (u := 1) hI (by decide +kernel)
          exact hQ 1 (hf_up ψ14 108 1 0) i10 r10 ⟨by omega, by omega, by omega⟩ e14
        · skip
          have e13b := e12a.trans (if_neg q13)
          have f12 := iv_at (a := 56) (k := 3) (lo := 0) (u := 1) hI (by decide +kernel)
          exact hQ 0 φ hI (fr_rf) ⟨by omega, by omega, by omega⟩ e13b
      · skip
        have e12b := e11a.trans (if_neg q12)
        have f13 := iv_at (a := 56) (k := 3) (lo := 0) (u := 1) hI (by decide +kernel)
        refine ⟨by unfold hi; omega, fun q17 => ?_, fun q17 => ?_⟩
        · skip
          have e17a := e12b.trans (if_pos q17)
          refine sf_64_4_56 (φ := φ) hI  (fun ψ18 hI18 hF18 hE18 => ⟨rfl, rfl, ?_⟩)
          have hG18 : Fr [6, 7, 8, 9, 10, 11, 12, 13, 14, 15, 16, 18, 19, 20, 21, 22, 23, 24, 25, 27, 28, 29, 18000, 18001, 18002, 18003, 18004, 18005, 27003, 27004, 27005, 109001] φ ψ18 := fr_tr (fr_rf) hF18 (by decide)
          have e18 := e17a.trans (bnv_e hE18)
          have i14 : Inv (hf_up ψ18 108 1 0) := iv_up (lo := 0) (u := 8) hI18 (by decide +kernel) (by omega) (by omega)
          have r14 : Fr [6, 7, 8, 9, 10, 11, 12, 13, 14, 15, 16, 18, 19, 20, 21, 22, 23, 24, 25, 27, 28, 29, 18000, 18001, 18002, 18003, 18004, 18005, 27003, 27004, 27005, 109001] φ (hf_up ψ18 108 1 0) := fr_up hG18 (by decide)
          have f15 := iv_at (a := 82) (k := 3) (lo := 0) (u := 1) hI (by decide +kernel)
          exact hQ 1 (hf_up ψ18 108 1 0) i14 r14 ⟨by omega, by omega, by omega⟩ e18
        · skip
          have e17b := e12b.trans (if_neg q17)
          have f16 := iv_at (a := 82) (k := 3) (lo := 0) (u := 1) hI (by decide +kernel)
          exact hQ 0 φ hI (fr_rf) ⟨by omega, by omega, by omega⟩ e17b
    · skip
      have e11b := e1b.trans (if_neg q11)
      have f17 := iv_at (a := 56) (k := 3) (lo := 0) (u := 1) hI (by decide +kernel)
      have f18 := iv_at (a := 82) (k := 3) (lo := 0) (u := 1) hI (by decide +kernel)
      exact hQ 0 φ hI (fr_rf) ⟨by omega, by omega, by omega⟩ e11b
theorem sf_106_0_v {sc : List Int} {d : Nat} {φ : hf_F} {x : Nat} {Q : Option jm_V → hf_F → Nat → Prop} {v1 : Int}
    (H : hw sc (d + 2) 70 0 [(0, (2, 0)), (1, (0, 4)), (2, (0, v1))] [] φ x (fun r ψ1 y1 => y1 = x ∧ φ = ψ1 ∧ (∃ z1 : Int, r = some (0, z1) ∧ (hi z1 ∧ (z1 = 0 → Q (some (0, (-1 : Int))) φ x) ∧ (¬ z1 = 0 → hw sc (d + 2) 107 0 [(0, (2, 187)), (1, (0, v1))] [] φ x (fun r ψ4 y4 => y4 = x ∧ φ = ψ4 ∧ (∃ z4 : Int, r = some (0, z4) ∧ (Q (some (0, z4)) φ x)))))))) :
    hw sc (d + 3) 106 0 [(0, (2, 0)), (1, (0, v1))] [] φ x Q := by
  refine hw_ald (b := 0) (e := 0) (by decide +kernel) rfl (by decide) ?_
  refine hw_k (c := 4) (b := 0) (e := 1) (by decide +kernel) ?_
  refine hw_ld (b := 1) (e := 0) (by decide +kernel) rfl ?_
  refine hr_call (a0 := 10) (b := 70) (e := 3) (nl := 3) (As := [(0, 4), (0, v1)]) (R := []) 0 rfl (by decide +kernel) rfl rfl (Nat.le_of_ble_eq_true rfl) (Nat.le_of_ble_eq_true rfl) ?_
  refine hw_mono H ?_
  rintro r ψ1 y1 ⟨hyx, hψx, z1, hr, H⟩
  subst hyx
  subst hψx
  subst hr
  refine ⟨hne0, ?_⟩
  show hw sc (d + 3) 106 6 [(0, (2, 0)), (1, (0, v1))] [(0, z1)] φ y1 Q
  obtain ⟨hz2, ht2, hf2⟩ := H
  refine hw_if (a0 := 0) (b := 0) (e := 20) (by decide +kernel) hz2 (fun q => ?_) (fun q => ?_)
  · have H := ht2 q
    refine hw_k (c := (-1 : Int)) (b := 0) (e := 1) (by decide +kernel) ?_
    exact hw_ret (a0 := 0) (e := 0) (by decide +kernel) (Or.inl rfl) H
  · have H := hf2 q
    refine hw_ald (b := 0) (e := 0) (by decide +kernel) rfl (by decide) ?_
    refine hr_gr (w := 187) (b := 0) (e := 8) 0 rfl (by decide +kernel) ?_
    refine hw_ld (b := 1) (e := 0) (by decide +kernel) rfl ?_
    refine hr_call (a0 := 19) (b := 107) (e := 2) (nl := 4) (As := [(0, v1)]) (R := []) 187 rfl (by decide +kernel) rfl rfl (Nat.le_of_ble_eq_true rfl) (Nat.le_of_ble_eq_true rfl) ?_
    refine hw_mono H ?_
    rintro r ψ4 y4 ⟨hyx, hψx, z4, hr, H⟩
    subst hyx
    subst hψx
    subst hr
    refine ⟨hne0, ?_⟩
    show hw sc (d + 3) 106 17 [(0, (2, 0)), (1, (0, v1))] [(0, z4)] φ y4 Q
    refine hw_goto (a0 := 0) (b := 0) (e := 21) (by decide +kernel) ?_
    exact hw_ret (a0 := 0) (e := 0) (by decide +kernel) (Or.inl rfl) H
theorem sf_106_0 {sc : List Int} {d : Nat} {φ : hf_F} {x : Nat} {Q : Option jm_V → hf_F → Nat → Prop} {v1 : Int} (hI : Inv φ) (h1a : (-2147483648 : Int) ≤ v1) (h1b : v1 ≤ 2147483647) (hQ : ∀ (r : Int), True → F_RideLaws_able_0 φ v1 = r → Q (some (0, r)) φ x) : hw sc (d + 3) 106 0 [(0, (2, 0)), (1, (0, v1))] [] φ x Q := by
  apply sf_106_0_v
  have e0 : F_RideLaws_able_0 φ v1 = _ := rfl
  refine sf_70_0_k1_4 (φ := φ) hI (by omega) (by omega) (fun z1 hp1 hE1 => ⟨rfl, rfl, z1, rfl, ?_⟩)
  have e1 := e0.trans (bnp_e hE1)
  have f1 := iv_at (a := 6) (k := 4) (lo := 0) (u := 8) hI (by decide +kernel)
  refine ⟨by unfold hi; omega, fun q2 => ?_, fun q2 => ?_⟩
  · skip
    have e2a := e1.trans (if_pos q2)
    exact hQ (-1 : Int) trivial e2a
  · skip
    have e2b := e1.trans (if_neg q2)
    refine sf_107_187 (φ := φ) hI (by omega) (by omega) (fun z4 hp4 hE4 => ⟨rfl, rfl, z4, rfl, ?_⟩)
    have e4 := e2b.trans (bnp_e hE4)
    exact hQ z4 trivial e4
