theorem sf_66_43_17_v {sc : List Int} {d : Nat} {φ : hf_F} {x : Nat} {Q : Option jm_V → hf_F → Nat → Prop} 
    (H : Q none (hf_cp (hf_cp (hf_cp (hf_cp (hf_cp (hf_cp (hf_cp (hf_cp (hf_up (hf_up (hf_up (hf_up (hf_up (hf_up φ 43 0 (φ 17 0)) 43 1 (φ 17 1)) 43 2 (φ 17 2)) 43 3 (φ 17 3)) 43 4 (φ 17 4)) 43 5 (φ 17 5)) 18 44 8) 19 45 8) 20 46 6) 21 47 6) 22 48 36) 23 49 6) 24 50 6) 25 51 8) x) :
    hw sc d 66 0 [(0, (2, 43)), (1, (2, 17))] [] φ x Q := by
  refine hw_ald (b := 0) (e := 0) (by decide +kernel) rfl (by decide) ?_
  refine hw_ald (b := 1) (e := 0) (by decide +kernel) rfl (by decide) ?_
  refine hr_gi (w := φ 17 0) (b := 4) (e := 0) 17 rfl (by decide +kernel) rfl ?_
  refine hr_pi (b := 4) (e := 0) 43 rfl (by decide +kernel) ?_
  refine hw_ald (b := 0) (e := 0) (by decide +kernel) rfl (by decide) ?_
  refine hw_ald (b := 1) (e := 0) (by decide +kernel) rfl (by decide) ?_
  refine hr_gi (w := φ 17 1) (b := 4) (e := 1) 17 rfl (by decide +kernel) (hf_up_ne (fun q => absurd q.1 (by decide))) ?_
  refine hr_pi (b := 4) (e := 1) 43 rfl (by decide +kernel) ?_
  refine hw_ald (b := 0) (e := 0) (by decide +kernel) rfl (by decide) ?_
  refine hw_ald (b := 1) (e := 0) (by decide +kernel) rfl (by decide) ?_
  refine hr_gi (w := φ 17 2) (b := 4) (e := 2) 17 rfl (by decide +kernel) ((hf_up_ne (fun q => absurd q.1 (by decide))).trans (hf_up_ne (fun q => absurd q.1 (by decide)))) ?_
  refine hr_pi (b := 4) (e := 2) 43 rfl (by decide +kernel) ?_
  refine hw_ald (b := 0) (e := 0) (by decide +kernel) rfl (by decide) ?_
  refine hw_ald (b := 1) (e := 0) (by decide +kernel) rfl (by decide) ?_
  refine hr_gi (w := φ 17 3) (b := 4) (e := 3) 17 rfl (by decide +kernel) ((hf_up_ne (fun q => absurd q.1 (by decide))).trans ((hf_up_ne (fun q => absurd q.1 (by decide))).trans (hf_up_ne (fun q => absurd q.1 (by decide))))) ?_
  refine hr_pi (b := 4) (e := 3) 43 rfl (by decide +kernel) ?_
  refine hw_ald (b := 0) (e := 0) (by decide +kernel) rfl (by decide) ?_
  refine hw_ald (b := 1) (e := 0) (by decide +kernel) rfl (by decide) ?_
  refine hr_gi (w := φ 17 4) (b := 4) (e := 4) 17 rfl (by decide +kernel) ((hf_up_ne (fun q => absurd q.1 (by decide))).trans ((hf_up_ne (fun q => absurd q.1 (by decide))).trans ((hf_up_ne (fun q => absurd q.1 (by decide))).trans (hf_up_ne (fun q => absurd q.1 (by decide)))))) ?_
  refine hr_pi (b := 4) (e := 4) 43 rfl (by decide +kernel) ?_
  refine hw_ald (b := 0) (e := 0) (by decide +kernel) rfl (by decide) ?_
  refine hw_ald (b := 1) (e := 0) (by decide +kernel) rfl (by decide) ?_
  refine hr_gi (w := φ 17 5) (b := 4) (e := 5) 17 rfl (by decide +kernel) ((hf_up_ne (fun q => absurd q.1 (by decide))).trans ((hf_up_ne (fun q => absurd q.1 (by decide))).trans ((hf_up_ne (fun q => absurd q.1 (by decide))).trans ((hf_up_ne (fun q => absurd q.1 (by decide))).trans (hf_up_ne (fun q => absurd q.1 (by decide))))))) ?_
  refine hr_pi (b := 4) (e := 5) 43 rfl (by decide +kernel) ?_
  refine hw_ald (b := 1) (e := 0) (by decide +kernel) rfl (by decide) ?_
  refine hr_gr (w := 18) (b := 4) (e := 6) 17 rfl (by decide +kernel) ?_
  refine hw_k (c := 0) (b := 0) (e := 1) (by decide +kernel) ?_
  refine hw_ald (b := 0) (e := 0) (by decide +kernel) rfl (by decide) ?_
  refine hr_gr (w := 44) (b := 4) (e := 6) 43 rfl (by decide +kernel) ?_
  refine hw_k (c := 0) (b := 0) (e := 1) (by decide +kernel) ?_
  refine hw_k (c := 8) (b := 1) (e := 2) (by decide +kernel) ?_
  refine hr_cp (a0 := 0) (b0 := 0) (e := 0) 18 44 8 rfl rfl rfl (by decide +kernel) (Nat.le_of_ble_eq_true rfl) ?_
  refine hw_ald (b := 1) (e := 0) (by decide +kernel) rfl (by decide) ?_
  refine hr_gr (w := 19) (b := 4) (e := 7) 17 rfl (by decide +kernel) ?_
  refine hw_k (c := 0) (b := 0) (e := 1) (by decide +kernel) ?_
  refine hw_ald (b := 0) (e := 0) (by decide +kernel) rfl (by decide) ?_
  refine hr_gr (w := 45) (b := 4) (e := 7) 43 rfl (by decide +kernel) ?_
  refine hw_k (c := 0) (b := 0) (e := 1) (by decide +kernel) ?_
  refine hw_k (c := 8) (b := 1) (e := 2) (by decide +kernel) ?_
  refine hr_cp (a0 := 0) (b0 := 0) (e := 0) 19 45 8 rfl rfl rfl (by decide +kernel) (Nat.le_of_ble_eq_true rfl) ?_
  refine hw_ald (b := 1) (e := 0) (by decide +kernel) rfl (by decide) ?_
  refine hr_gr (w := 20) (b := 4) (e := 8) 17 rfl (by decide +kernel) ?_
  refine hw_k (c := 0) (b := 0) (e := 1) (by decide +kernel) ?_
  refine hw_ald (b := 0) (e := 0) (by decide +kernel) rfl (by decide) ?_
  refine hr_gr (w := 46) (b := 4) (e := 8) 43 rfl (by decide +kernel) ?_
  refine hw_k (c := 0) (b := 0) (e := 1) (by decide +kernel) ?_
  refine hw_k (c := 6) (b := 1) (e := 2) (by decide +kernel) ?_
  refine hr_cp (a0 := 0) (b0 := 0) (e := 0) 20 46 6 rfl rfl rfl (by decide +kernel) (Nat.le_of_ble_eq_true rfl) ?_
  refine hw_ald (b := 1) (e := 0) (by decide +kernel) rfl (by decide) ?_
  refine hr_gr (w := 21) (b := 4) (e := 9) 17 rfl (by decide +kernel) ?_
  refine hw_k (c := 0) (b := 0) (e := 1) (by decide +kernel) ?_
  refine hw_ald (b := 0) (e := 0) (by decide +kernel) rfl (by decide) ?_
  refine hr_gr (w := 47) (b := 4) (e := 9) 43 rfl (by decide +kernel) ?_
  refine hw_k (c := 0) (b := 0) (e := 1) (by decide +kernel) ?_
  refine hw_k (c := 6) (b := 1) (e := 2) (by decide +kernel) ?_
  refine hr_cp (a0 := 0) (b0 := 0) (e := 0) 21 47 6 rfl rfl rfl (by decide +kernel) (Nat.le_of_ble_eq_true rfl) ?_
  refine hw_ald (b := 1) (e := 0) (by decide +kernel) rfl (by decide) ?_
  refine hr_gr (w := 22) (b := 4) (e := 10) 17 rfl (by decide +kernel) ?_
  refine hw_k (c := 0) (b := 0) (e := 1) (by decide +kernel) ?_
  refine hw_ald (b := 0) (e := 0) (by decide +kernel) rfl (by decide) ?_
  refine hr_gr (w := 48) (b := 4) (e := 10) 43 rfl (by decide +kernel) ?_
  refine hw_k (c := 0) (b := 0) (e := 1) (by decide +kernel) ?_
  refine hw_k (c := 36) (b := 1) (e := 2) (by decide +kernel) ?_
  refine hr_cp (a0 := 0) (b0 := 0) (e := 0) 22 48 36 rfl rfl rfl (by decide +kernel) (Nat.le_of_ble_eq_true rfl) ?_
  refine hw_ald (b := 1) (e := 0) (by decide +kernel) rfl (by decide) ?_
  refine hr_gr (w := 23) (b := 4) (e := 11) 17 rfl (by decide +kernel) ?_
  refine hw_k (c := 0) (b := 0) (e := 1) (by decide +kernel) ?_
  refine hw_ald (b := 0) (e := 0) (by decide +kernel) rfl (by decide) ?_
  refine hr_gr (w := 49) (b := 4) (e := 11) 43 rfl (by decide +kernel) ?_
  refine hw_k (c := 0) (b := 0) (e := 1) (by decide +kernel) ?_
  refine hw_k (c := 6) (b := 1) (e := 2) (by decide +kernel) ?_
  refine hr_cp (a0 := 0) (b0 := 0) (e := 0) 23 49 6 rfl rfl rfl (by decide +kernel) (Nat.le_of_ble_eq_true rfl) ?_
  refine hw_ald (b := 1) (e := 0) (by decide +kernel) rfl (by decide) ?_
  refine hr_gr (w := 24) (b := 4) (e := 12) 17 rfl (by decide +kernel) ?_
  refine hw_k (c := 0) (b := 0) (e := 1) (by decide +kernel) ?_
  refine hw_ald (b := 0) (e := 0) (by decide +kernel) rfl (by decide) ?_
  refine hr_gr (w := 50) (b := 4) (e := 12) 43 rfl (by decide +kernel) ?_
  refine hw_k (c := 0) (b := 0) (e := 1) (by decide +kernel) ?_
  refine hw_k (c := 6) (b := 1) (e := 2) (by decide +kernel) ?_
  refine hr_cp (a0 := 0) (b0 := 0) (e := 0) 24 50 6 rfl rfl rfl (by decide +kernel) (Nat.le_of_ble_eq_true rfl) ?_
  refine hw_ald (b := 1) (e := 0) (by decide +kernel) rfl (by decide) ?_
  refine hr_gr (w := 25) (b := 4) (e := 13) 17 rfl (by decide +kernel) ?_
  refine hw_k (c := 0) (b := 0) (e := 1) (by decide +kernel) ?_
  refine hw_ald (b := 0) (e := 0) (by decide +kernel) rfl (by decide) ?_
  refine hr_gr (w := 51) (b := 4) (e := 13) 43 rfl (by decide +kernel) ?_
  refine hw_k (c := 0) (b := 0) (e := 1) (by decide +kernel) ?_
  refine hw_k (c := 8) (b := 1) (e := 2) (by decide +kernel) ?_
  refine hr_cp (a0 := 0) (b0 := 0) (e := 0) 25 51 8 rfl rfl rfl (by decide +kernel) (Nat.le_of_ble_eq_true rfl) ?_
  exact hw_vret (a0 := 0) (e := 0) (by decide +kernel) H
theorem sf_66_43_17 {sc : List Int} {d : Nat} {φ : hf_F} {x : Nat} {Q : Option jm_V → hf_F → Nat → Prop}  (hI : Inv φ)  (hQ : ∀ ψ : hf_F, Inv ψ → Fr [44, 45, 46, 47, 48, 49, 50, 51, 44000, 44001, 44002, 44003, 44004, 44005] φ ψ → F_State_copyFrom_43_17 φ = ψ → Q none ψ x) : hw sc d 66 0 [(0, (2, 43)), (1, (2, 17))] [] φ x Q := by
  apply sf_66_43_17_v
  have e0 : F_State_copyFrom_43_17 φ = _ := rfl
  have i1 : Inv (hf_up φ 43 0 (φ 17 0)) := iv_upn hI (by decide) (by decide) (by decide +kernel)
  have r1 : Fr [44, 45, 46, 47, 48, 49, 50, 51, 44000, 44001, 44002, 44003, 44004, 44005] φ (hf_up φ 43 0 (φ 17 0)) := fr_up (fr_rf) (by decide)
  have f2 := iv_at (a := 17) (k := 1) (lo := (-1 : Int)) (u := 7) hI (by decide +kernel)
  have i3 : Inv (hf_up (hf_up φ 43 0 (φ 17 0)) 43 1 (φ 17 1)) := iv_up (lo := (-1 : Int)) (u := 7) i1 (by decide +kernel) (by omega) (by omega)
  have r3 : Fr [44, 45, 46, 47, 48, 49, 50, 51, 44000, 44001, 44002, 44003, 44004, 44005] φ (hf_up (hf_up φ 43 0 (φ 17 0)) 43 1 (φ 17 1)) := fr_up r1 (by decide)
  have f4 := iv_at (a := 17) (k := 2) (lo := (-1 : Int)) (u := 5) hI (by decide +kernel)
  have i5 : Inv (hf_up (hf_up (hf_up φ 43 0 (φ 17 0)) 43 1 (φ 17 1)) 43 2 (φ 17 2)) := iv_up (lo := (-1 : Int)) (u := 5) i3 (by decide +kernel) (by omega) (by omega)
  have r5 : Fr [44, 45, 46, 47, 48, 49, 50, 51, 44000, 44001, 44002, 44003, 44004, 44005] φ (hf_up (hf_up (hf_up φ 43 0 (φ 17 0)) 43 1 (φ 17 1)) 43 2 (φ 17 2)) := fr_up r3 (by decide)
  have f6 := iv_at (a := 17) (k := 3) (lo := (-2147483648 : Int)) (u := 2147483647) hI (by decide +kernel)
  have i7 : Inv (hf_up (hf_up (hf_up (hf_up φ 43 0 (φ 17 0)) 43 1 (φ 17 1)) 43 2 (φ 17 2)) 43 3 (φ 17 3)) := iv_up (lo := (-2147483648 : Int)) (u := 2147483647) i5 (by decide +kernel) (by omega) (by omega)
  have r7 : Fr [44, 45, 46, 47, 48, 49, 50, 51, 44000, 44001, 44002, 44003, 44004, 44005] φ (hf_up (hf_up (hf_up (hf_up φ 43 0 (φ 17 0)) 43 1 (φ 17 1)) 43 2 (φ 17 2)) 43 3 (φ 17 3)) := fr_up r5 (by decide)
  have i8 : Inv (hf_up (hf_up (hf_up (hf_up (hf_up φ 43 0 (φ 17 0)) 43 1 (φ 17 1)) 43 2 (φ 17 2)) 43 3 (φ 17 3)) 43 4 (φ 17 4)) := iv_upn i7 (by decide) (by decide) (by decide +kernel)
  have r8 : Fr [44, 45, 46, 47, 48, 49, 50, 51, 44000, 44001, 44002, 44003, 44004, 44005] φ (hf_up (hf_up (hf_up (hf_up (hf_up φ 43 0 (φ 17 0)) 43 1 (φ 17 1)) 43 2 (φ 17 2)) 43 3 (φ 17 3)) 43 4 (φ 17 4)) := fr_up r7 (by decide)
  have i9 : Inv (hf_up (hf_up (hf_up (hf_up (hf_up (hf_up φ 43 0 (φ 17 0)) 43 1 (φ 17 1)) 43 2 (φ 17 2)) 43 3 (φ 17 3)) 43 4 (φ 17 4)) 43 5 (φ 17 5)) := iv_upn i8 (by decide) (by decide) (by decide +kernel)
  have r9 : Fr [44, 45, 46, 47, 48, 49, 50, 51, 44000, 44001, 44002, 44003, 44004, 44005] φ (hf_up (hf_up (hf_up (hf_up (hf_up (hf_up φ 43 0 (φ 17 0)) 43 1 (φ 17 1)) 43 2 (φ 17 2)) 43 3 (φ 17 3)) 43 4 (φ 17 4)) 43 5 (φ 17 5)) := fr_up r8 (by decide)
  have i10 : Inv (hf_cp (hf_up (hf_up (hf_up (hf_up (hf_up (hf_up φ 43 0 (φ 17 0)) 43 1 (φ 17 1)) 43 2 (φ 17 2)) 43 3 (φ 17 3)) 43 4 (φ 17 4)) 43 5 (φ 17 5)) 18 44 8) := iv_cp i9 (by decide) (by decide +kernel)
  have r10 : Fr [44, 45, 46, 47, 48, 49, 50, 51, 44000, 44001, 44002, 44003, 44004, 44005] φ (hf_cp (hf_up (hf_up (hf_up (hf_up (hf_up (hf_up φ 43 0 (φ 17 0)) 43 1 (φ 17 1)) 43 2 (φ 17 2)) 43 3 (φ 17 3)) 43 4 (φ 17 4)) 43 5 (φ 17 5)) 18 44 8) := fr_cp r9 (by decide)
  have i11 : Inv (hf_cp (hf_cp (hf_up (hf_up (hf_up (hf_up (hf_up (hf_up φ 43 0 (φ 17 0)) 43 1 (φ 17 1)) 43 2 (φ 17 2)) 43 3 (φ 17 3)) 43 4 (φ 17 4)) 43 5 (φ 17 5)) 18 44 8) 19 45 8) := iv_cp i10 (by decide) (by decide +kernel)
  have r11 : Fr [44, 45, 46, 47, 48, 49, 50, 51, 44000, 44001, 44002, 44003, 44004, 44005] φ (hf_cp (hf_cp (hf_up (hf_up (hf_up (hf_up (hf_up (hf_up φ 43 0 (φ 17 0)) 43 1 (φ 17 1)) 43 2 (φ 17 2)) 43 3 (φ 17 3)) 43 4 (φ 17 4)) 43 5 (φ 17 5)) 18 44 8) 19 45 8) := fr_cp r10 (by decide)
  have i12 : Inv (hf_cp (hf_cp (hf_cp (hf_up (hf_up (hf_up (hf_up (hf_up (hf_up φ 43 0 (φ 17 0)) 43 1 (φ 17 1)) 43 2 (φ 17 2)) 43 3 (φ 17 3)) 43 4 (φ 17 4)) 43 5 (φ 17 5)) 18 44 8) 19 45 8) 20 46 6) := iv_cp i11 (by decide) (by decide +kernel)
  have r12 : Fr [44, 45, 46, 47, 48, 49, 50, 51, 44000, 44001, 44002, 44003, 44004, 44005] φ (hf_cp (hf_cp (hf_cp (hf_up (hf_up (hf_up (hf_up (hf_up (hf_up φ 43 0 (φ 17 0)) 43 1 (φ 17 1)) 43 2 (φ 17 2)) 43 3 (φ 17 3)) 43 4 (φ 17 4)) 43 5 (φ 17 5)) 18 44 8) 19 45 8) 20 46 6) := fr_cp r11 (by decide)
  have i13 : Inv (hf_cp (hf_cp (hf_cp (hf_cp (hf_up (hf_up (hf_up (hf_up (hf_up (hf_up φ 43 0 (φ 17 0)) 43 1 (φ 17 1)) 43 2 (φ 17 2)) 43 3 (φ 17 3)) 43 4 (φ 17 4)) 43 5 (φ 17 5)) 18 44 8) 19 45 8) 20 46 6) 21 47 6) := iv_cp i12 (by decide) (by decide +kernel)
  have r13 : Fr [44, 45, 46, 47, 48, 49, 50, 51, 44000, 44001, 44002, 44003, 44004, 44005] φ (hf_cp (hf_cp (hf_cp (hf_cp (hf_up (hf_up (hf_up (hf_up (hf_up (hf_up φ 43 0 (φ 17 0)) 43 1 (φ 17 1)) 43 2 (φ 17 2)) 43 3 (φ 17 3)) 43 4 (φ 17 4)) 43 5 (φ 17 5)) 18 44 8) 19 45 8) 20 46 6) 21 47 6) := fr_cp r12 (by decide)
  have i14 : Inv (hf_cp (hf_cp (hf_cp (hf_cp (hf_cp (hf_up (hf_up (hf_up (hf_up (hf_up (hf_up φ 43 0 (φ 17 0)) 43 1 (φ 17 1)) 43 2 (φ 17 2)) 43 3 (φ 17 3)) 43 4 (φ 17 4)) 43 5 (φ 17 5)) 18 44 8) 19 45 8) 20 46 6) 21 47 6) 22 48 36) := iv_cp i13 (by decide) (by decide +kernel)
  have r14 : Fr [44, 45, 46, 47, 48, 49, 50, 51, 44000, 44001, 44002, 44003, 44004, 44005] φ (hf_cp (hf_cp (hf_cp (hf_cp (hf_cp (hf_up (hf_up (hf_up (hf_up (hf_up (hf_up φ 43 0 (φ 17 0)) 43 1 (φ 17 1)) 43 2 (φ 17 2)) 43 3 (φ 17 3)) 43 4 (φ 17 4)) 43 5 (φ 17 5)) 18 44 8) 19 45 8) 20 46 6) 21 47 6) 22 48 36) := fr_cp r13 (by decide)
  have i15 : Inv (hf_cp (hf_cp (hf_cp (hf_cp (hf_cp (hf_cp (hf_up (hf_up (hf_up (hf_up (hf_up (hf_up φ 43 0 (φ 17 0)) 43 1 (φ 17 1)) 43 2 (φ 17 2)) 43 3 (φ 17 3)) 43 4 (φ 17 4)) 43 5 (φ 17 5)) 18 44 8) 19 45 8) 20 46 6) 21 47 6) 22 48 36) 23 49 6) := iv_cp i14 (by decide) (by decide +kernel)
  have r15 : Fr [44, 45, 46, 47, 48, 49, 50, 51, 44000, 44001, 44002, 44003, 44004, 44005] φ (hf_cp (hf_cp (hf_cp (hf_cp (hf_cp (hf_cp (hf_up (hf_up (hf_up (hf_up (hf_up (hf_up φ 43 0 (φ 17 0)) 43 1 (φ 17 1)) 43 2 (φ 17 2)) 43 3 (φ 17 3)) 43 4 (φ 17 4)) 43 5 (φ 17 5)) 18 44 8) 19 45 8) 20 46 6) 21 47 6) 22 48 36) 23 49 6) := fr_cp r14 (by decide)
  have i16 : Inv (hf_cp (hf_cp (hf_cp (hf_cp (hf_cp (hf_cp (hf_cp (hf_up (hf_up (hf_up (hf_up (hf_up (hf_up φ 43 0 (φ 17 0)) 43 1 (φ 17 1)) 43 2 (φ 17 2)) 43 3 (φ 17 3)) 43 4 (φ 17 4)) 43 5 (φ 17 5)) 18 44 8) 19 45 8) 20 46 6) 21 47 6) 22 48 36) 23 49 6) 24 50 6) := iv_cp i15 (by decide) (by decide +kernel)
  have r16 : Fr [44, 45, 46, 47, 48, 49, 50, 51, 44000, 44001, 44002, 44003, 44004, 44005] φ (hf_cp (hf_cp (hf_cp (hf_cp (hf_cp (hf_cp (hf_cp (hf_up (hf_up (hf_up (hf_up (hf_up (hf_up φ 43 0 (φ 17 0)) 43 1 (φ 17 1)) 43 2 (φ 17 2)) 43 3 (φ 17 3)) 43 4 (φ 17 4)) 43 5 (φ 17 5)) 18 44 8) 19 45 8) 20 46 6) 21 47 6) 22 48 36) 23 49 6) 24 50 6) := fr_cp r15 (by decide)
  have i17 : Inv (hf_cp (hf_cp (hf_cp (hf_cp (hf_cp (hf_cp (hf_cp (hf_cp (hf_up (hf_up (hf_up (hf_up (hf_up (hf_up φ 43 0 (φ 17 0)) 43 1 (φ 17 1)) 43 2 (φ 17 2)) 43 3 (φ 17 3)) 43 4 (φ 17 4)) 43 5 (φ 17 5)) 18 44 8) 19 45 8) 20 46 6) 21 47 6) 22 48 36) 23 49 6) 24 50 6) 25 51 8) := iv_cp i16 (by decide) (by decide +kernel)
  have r17 : Fr [44, 45, 46, 47, 48, 49, 50, 51, 44000, 44001, 44002, 44003, 44004, 44005] φ (hf_cp (hf_cp (hf_cp (hf_cp (hf_cp (hf_cp (hf_cp (hf_cp (hf_up (hf_up (hf_up (hf_up (hf_up (hf_up φ 43 0 (φ 17 0)) 43 1 (φ 17 1)) 43 2 (φ 17 2)) 43 3 (φ 17 3)) 43 4 (φ 17 4)) 43 5 (φ 17 5)) 18 44 8) 19 45 8) 20 46 6) 21 47 6) 22 48 36) 23 49 6) 24 50 6) 25 51 8) := fr_cp r16 (by decide)
  exact hQ (hf_cp (hf_cp (hf_cp (hf_cp (hf_cp (hf_cp (hf_cp (hf_cp (hf_up (hf_up (hf_up (hf_up (hf_up (hf_up φ 43 0 (φ 17 0)) 43 1 (φ 17 1)) 43 2 (φ 17 2)) 43 3 (φ 17 3)) 43 4 (φ 17 4)) 43 5 (φ 17 5)) 18 44 8) 19 45 8) 20 46 6) 21 47 6) 22 48 36) 23 49 6) 24 50 6) 25 51 8) i17 r17 e0
theorem sf_71_43_v {sc : List Int} {d : Nat} {φ : hf_F} {x : Nat} {Q : Option jm_V → hf_F → Nat → Prop} {v1 v2 : Int}
    (H : 0 ≤ ((v1 * 6) + v2) ∧ ((v1 * 6) + v2) < 36 ∧ (Q (some (0, φ 48 (((v1 * 6) + v2).toNat))) φ x)) :
    hw sc d 71 0 [(0, (2, 43)), (1, (0, v1)), (2, (0, v2))] [] φ x Q := by
  refine hw_ald (b := 0) (e := 0) (by decide +kernel) rfl (by decide) ?_
  refine hr_gr (w := 48) (b := 4) (e := 10) 43 rfl (by decide +kernel) ?_
  refine hw_ld (b := 1) (e := 0) (by decide +kernel) rfl ?_
  refine hw_k (c := 6) (b := 1) (e := 2) (by decide +kernel) ?_
  refine hw_bin (w := v1 * 6) (a0 := 0) (b := 2) (e := 0) (by decide +kernel) rfl ?_
  refine hw_ld (b := 2) (e := 0) (by decide +kernel) rfl ?_
  refine hw_bin (w := (v1 * 6) + v2) (a0 := 0) (b := 0) (e := 0) (by decide +kernel) rfl ?_
  obtain ⟨hl1, hu1, H⟩ := H
  refine hr_al (b := 0) (a0 := 0) (e := 0) (n := 36) (w := φ 48 (((v1 * 6) + v2).toNat)) 48 rfl (by decide +kernel) (by decide) hl1 hu1 rfl ?_
  exact hw_ret (a0 := 0) (e := 0) (by decide +kernel) (Or.inl rfl) H
theorem sf_71_43 {sc : List Int} {d : Nat} {φ : hf_F} {x : Nat} {Q : Option jm_V → hf_F → Nat → Prop} {v1 v2 : Int} (hI : Inv φ) (h1a : 0 ≤ v1) (h1b : v1 ≤ 5) (h2a : 0 ≤ v2) (h2b : v2 ≤ 5) (hQ : ∀ (r : Int), 0 ≤ r ∧ r ≤ 7 → F_State_rollWord_43 φ v1 v2 = r → Q (some (0, r)) φ x) : hw sc d 71 0 [(0, (2, 43)), (1, (0, v1)), (2, (0, v2))] [] φ x Q := by
  apply sf_71_43_v
  have e0 : F_State_rollWord_43 φ v1 v2 = _ := rfl
  refine ⟨by omega, by omega, ?_⟩
  have f1 := iv_ar (a := 48) (s := 0) (t := 36) (lo := 0) (u := 7) (z := (v1 * 6) + v2) hI (by decide +kernel) (by omega) (by omega)
  exact hQ (φ 48 (((v1 * 6) + v2).toNat)) ⟨by omega, by omega⟩ e0
theorem sf_93_43_5_v {sc : List Int} {d : Nat} {φ : hf_F} {x : Nat} {Q : Option jm_V → hf_F → Nat → Prop} {v2 : Int}
    (H : 0 ≤ v2 ∧ v2 < 6 ∧ (hw sc d 71 0 [(0, (2, 43)), (1, (0, v2)), (2, (0, φ 49 ((v2).toNat)))] [] φ x (fun r ψ2 y2 => y2 = x ∧ φ = ψ2 ∧ (∃ z2 : Int, r = some (0, z2) ∧ (0 ≤ v2 ∧ v2 < 6 ∧ (0 ≤ v2 ∧ v2 < 6 ∧ (hi ((φ 49 ((v2).toNat)) + 1) ∧ hi (φ 47 ((v2).toNat)) ∧ ((φ 47 ((v2).toNat)) ≤ ((φ 49 ((v2).toNat)) + 1) → 0 ≤ v2 ∧ v2 < 6 ∧ (0 ≤ v2 ∧ v2 < 6 ∧ (0 ≤ v2 ∧ v2 < 6 ∧ (hi (φ 43 1) ∧ hi (-1 : Int) ∧ (¬ (φ 43 1) = (-1 : Int) → 0 ≤ (((φ 43 1) * 8) + z2) ∧ (((φ 43 1) * 8) + z2) < 64 ∧ (hi (φ 16 ((((φ 43 1) * 8) + z2).toNat)) ∧ hi (-1 : Int) ∧ ((φ 16 ((((φ 43 1) * 8) + z2).toNat)) = (-1 : Int) → Q none (hf_up (hf_up (hf_up (hf_up (hf_up φ 49 ((v2).toNat) 0) 50 ((v2).toNat) ((φ 50 ((v2).toNat)) + 1)) 43 4 ((φ 43 4) + 1)) 43 1 z2) 43 2 v2) x) ∧ (¬ (φ 16 ((((φ 43 1) * 8) + z2).toNat)) = (-1 : Int) → 0 ≤ (φ 16 ((((φ 43 1) * 8) + z2).toNat)) ∧ (φ 16 ((((φ 43 1) * 8) + z2).toNat)) < 8 ∧ (0 ≤ (φ 16 ((((φ 43 1) * 8) + z2).toNat)) ∧ (φ 16 ((((φ 43 1) * 8) + z2).toNat)) < 8 ∧ (0 ≤ (φ 16 ((((φ 43 1) * 8) + z2).toNat)) ∧ (φ 16 ((((φ 43 1) * 8) + z2).toNat)) < 8 ∧ (Q none (hf_up (hf_up (hf_up (hf_up (hf_up (hf_up (hf_up φ 49 ((v2).toNat) 0) 50 ((v2).toNat) ((φ 50 ((v2).toNat)) + 1)) 43 4 ((φ 43 4) + 1)) 43 3 (hb_and (hb_or (φ 43 3) (hb_shl 1 (φ 16 ((((φ 43 1) * 8) + z2).toNat)))) (hb_xor (φ 15 ((φ 16 ((((φ 43 1) * 8) + z2).toNat)).toNat)) (-1 : Int)))) 51 ((φ 16 ((((φ 43 1) * 8) + z2).toNat)).toNat) ((φ 51 ((φ 16 ((((φ 43 1) * 8) + z2).toNat)).toNat)) + 1)) 43 1 z2) 43 2 v2) x)))))) ∧ (¬ (¬ (φ 43 1) = (-1 : Int)) → Q none (hf_up (hf_up (hf_up (hf_up (hf_up φ 49 ((v2).toNat) 0) 50 ((v2).toNat) ((φ 50 ((v2).toNat)) + 1)) 43 4 ((φ 43 4) + 1)) 43 1 z2) 43 2 v2) x))))) ∧ (¬ (φ 47 ((v2).toNat)) ≤ ((φ 49 ((v2).toNat)) + 1) → 0 ≤ v2 ∧ v2 < 6 ∧ (0 ≤ v2 ∧ v2 < 6 ∧ (0 ≤ v2 ∧ v2 < 6 ∧ (hi (φ 43 1) ∧ hi (-1 : Int) ∧ (¬ (φ 43 1) = (-1 : Int) → 0 ≤ (((φ 43 1) * 8) + z2) ∧ (((φ 43 1) * 8) + z2) < 64 ∧ (hi (φ 16 ((((φ 43 1) * 8) + z2).toNat)) ∧ hi (-1 : Int) ∧ ((φ 16 ((((φ 43 1) * 8) + z2).toNat)) = (-1 : Int) → Q none (hf_up (hf_up (hf_up (hf_up (hf_up φ 49 ((v2).toNat) ((φ 49 ((v2).toNat)) + 1)) 50 ((v2).toNat) ((φ 50 ((v2).toNat)) + 1)) 43 4 ((φ 43 4) + 1)) 43 1 z2) 43 2 v2) x) ∧ (¬ (φ 16 ((((φ 43 1) * 8) + z2).toNat)) = (-1 : Int) → 0 ≤ (φ 16 ((((φ 43 1) * 8) + z2).toNat)) ∧ (φ 16 ((((φ 43 1) * 8) + z2).toNat)) < 8 ∧ (0 ≤ (φ 16 ((((φ 43 1) * 8) + z2).toNat)) ∧ (φ 16 ((((φ 43 1) * 8) + z2).toNat)) < 8 ∧ (0 ≤ (φ 16 ((((φ 43 1) * 8) + z2).toNat)) ∧ (φ 16 ((((φ 43 1) * 8) + z2).toNat)) < 8 ∧ (Q none (hf_up (hf_up (hf_up (hf_up (hf_up (hf_up (hf_up φ 49 ((v2).toNat) ((φ 49 ((v2).toNat)) + 1)) 50 ((v2).toNat) ((φ 50 ((v2).toNat)) + 1)) 43 4 ((φ 43 4) + 1)) 43 3 (hb_and (hb_or (φ 43 3) (hb_shl 1 (φ 16 ((((φ 43 1) * 8) + z2).toNat)))) (hb_xor (φ 15 ((φ 16 ((((φ 43 1) * 8) + z2).toNat)).toNat)) (-1 : Int)))) 51 ((φ 16 ((((φ 43 1) * 8) + z2).toNat)).toNat) ((φ 51 ((φ 16 ((((φ 43 1) * 8) + z2).toNat)).toNat)) + 1)) 43 1 z2) 43 2 v2) x)))))) ∧ (¬ (¬ (φ 43 1) = (-1 : Int)) → Q none (hf_up (hf_up (hf_up (hf_up (hf_up φ 49 ((v2).toNat) ((φ 49 ((v2).toNat)) + 1)) 50 ((v2).toNat) ((φ 50 ((v2).toNat)) + 1)) 43 4 ((φ 43 4) + 1)) 43 1 z2) 43 2 v2) x)))))))))))) :
    hw sc (d + 1) 93 0 [(0, (2, 43)), (1, (2, 5)), (2, (0, v2))] [] φ x Q := by
  refine hw_ald (b := 0) (e := 0) (by decide +kernel) rfl (by decide) ?_
  refine hw_ld (b := 2) (e := 0) (by decide +kernel) rfl ?_
  refine hw_ald (b := 0) (e := 0) (by decide +kernel) rfl (by decide) ?_
  refine hr_gr (w := 49) (b := 4) (e := 11) 43 rfl (by decide +kernel) ?_
  refine hw_ld (b := 2) (e := 0) (by decide +kernel) rfl ?_
  obtain ⟨hl1, hu1, H⟩ := H
  refine hr_al (b := 0) (a0 := 0) (e := 0) (n := 6) (w := φ 49 ((v2).toNat)) 49 rfl (by decide +kernel) (by decide) hl1 hu1 rfl ?_
  refine hr_call (a0 := 14) (b := 71) (e := 3) (nl := 3) (As := [(0, v2), (0, φ 49 ((v2).toNat))]) (R := []) 43 rfl (by decide +kernel) rfl rfl (Nat.le_of_ble_eq_true rfl) (Nat.le_of_ble_eq_true rfl) ?_
  refine hw_mono H ?_
  rintro r ψ2 y2 ⟨hyx, hψx, z2, hr, H⟩
  subst hyx
  subst hψx
  subst hr
  refine ⟨hne0, ?_⟩
  show hw sc (d + 1) 93 11 [(0, (2, 43)), (1, (2, 5)), (2, (0, v2))] [(0, z2)] φ y2 Q
  refine hw_st (L' := (jm_st1 [(0, (2, 43)), (1, (2, 5)), (2, (0, v2))] 3 (0, z2))) (b := 3) (e := 0) (by decide +kernel) rfl ?_
  refine hw_ald (b := 0) (e := 0) (by decide +kernel) (get_st1 rfl (by decide) (fun q => absurd q.1 (by decide))) (by decide) ?_
  refine hr_gr (w := 49) (b := 4) (e := 11) 43 rfl (by decide +kernel) ?_
  refine hw_ld (b := 2) (e := 0) (by decide +kernel) (get_st1 rfl (by decide) (fun q => tg0 q.2)) ?_
  obtain ⟨hl3, hu3, H⟩ := H
  refine hr_al (b := 0) (a0 := 0) (e := 0) (n := 6) (w := φ 49 ((v2).toNat)) 49 rfl (by decide +kernel) (by decide) hl3 hu3 rfl ?_
  refine hw_k (c := 1) (b := 0) (e := 1) (by decide +kernel) ?_
  refine hw_bin (w := (φ 49 ((v2).toNat)) + 1) (a0 := 0) (b := 0) (e := 0) (by decide +kernel) rfl ?_
  refine hw_st (L' := (jm_st1 (jm_st1 [(0, (2, 43)), (1, (2, 5)), (2, (0, v2))] 3 (0, z2)) 4 (0, (φ 49 ((v2).toNat)) + 1))) (b := 4) (e := 1) (by decide +kernel) rfl ?_
  refine hw_ald (b := 0) (e := 0) (by decide +kernel) (get_st1 (get_st1 rfl (by decide) (fun q => absurd q.1 (by decide))) (by decide) (fun q => absurd q.1 (by decide))) (by decide) ?_
  refine hr_gr (w := 49) (b := 4) (e := 11) 43 rfl (by decide +kernel) ?_
  refine hw_ld (b := 2) (e := 0) (by decide +kernel) (get_st1 (get_st1 rfl (by decide) (fun q => tg0 q.2)) (by decide) (fun q => absurd q.1 (by decide))) ?_
  refine hw_ld (b := 4) (e := 1) (by decide +kernel) get_st1e ?_
  refine hw_ald (b := 0) (e := 0) (by decide +kernel) (get_st1 (get_st1 rfl (by decide) (fun q => absurd q.1 (by decide))) (by decide) (fun q => absurd q.1 (by decide))) (by decide) ?_
  refine hr_gr (w := 47) (b := 4) (e := 9) 43 rfl (by decide +kernel) ?_
  refine hw_ld (b := 2) (e := 0) (by decide +kernel) (get_st1 (get_st1 rfl (by decide) (fun q => tg0 q.2)) (by decide) (fun q => absurd q.1 (by decide))) ?_
  obtain ⟨hl4, hu4, H⟩ := H
  refine hr_al (b := 0) (a0 := 0) (e := 0) (n := 6) (w := φ 47 ((v2).toNat)) 47 rfl (by decide +kernel) (by decide) hl4 hu4 rfl ?_
  obtain ⟨hz5, hy5, ht5, hf5⟩ := H
  refine hw_if2 (a0 := 0) (b := 3) (e := 43) (by decide +kernel) hz5 hy5 (fun q => ?_) (fun q => ?_)
  · have H := ht5 q
    refine hw_k (c := 0) (b := 0) (e := 1) (by decide +kernel) ?_
    obtain ⟨hl6, hu6, H⟩ := H
    refine hr_as (a0 := 0) (e := 4) (n := 6) 49 rfl (by decide +kernel) hl6 hu6 ?_
    refine hw_ald (b := 0) (e := 0) (by decide +kernel) (get_st1 (get_st1 rfl (by decide) (fun q => absurd q.1 (by decide))) (by decide) (fun q => absurd q.1 (by decide))) (by decide) ?_
    refine hr_gr (w := 50) (b := 4) (e := 12) 43 rfl (by decide +kernel) ?_
    refine hw_ld (b := 2) (e := 0) (by decide +kernel) (get_st1 (get_st1 rfl (by decide) (fun q => tg0 q.2)) (by decide) (fun q => absurd q.1 (by decide))) ?_
    refine hw_dup2 (a0 := 0) (e := 0) (by decide +kernel) (by decide) (by decide) ?_
    obtain ⟨hl7, hu7, H⟩ := H
    refine hr_al (b := 0) (a0 := 0) (e := 0) (n := 6) (w := φ 50 ((v2).toNat)) 50 rfl (by decide +kernel) (by decide) hl7 hu7 (hf_up_ne (fun q => absurd q.1 (by decide))) ?_
    refine hw_k (c := 1) (b := 0) (e := 1) (by decide +kernel) ?_
    refine hw_bin (w := (φ 50 ((v2).toNat)) + 1) (a0 := 0) (b := 0) (e := 0) (by decide +kernel) rfl ?_
    obtain ⟨hl8, hu8, H⟩ := H
    refine hr_as (a0 := 0) (e := 4) (n := 6) 50 rfl (by decide +kernel) hl8 hu8 ?_
    refine hw_ald (b := 0) (e := 0) (by decide +kernel) (get_st1 (get_st1 rfl (by decide) (fun q => absurd q.1 (by decide))) (by decide) (fun q => absurd q.1 (by decide))) (by decide) ?_
    refine hw_dup (a0 := 0) (e := 0) (by decide +kernel) (by decide) ?_
    refine hr_gi (w := φ 43 4) (b := 4) (e := 4) 43 rfl (by decide +kernel) ((hf_up_ne (fun q => absurd q.1 (by decide))).trans (hf_up_ne (fun q => absurd q.1 (by decide)))) ?_
    refine hw_k (c := 1) (b := 0) (e := 1) (by decide +kernel) ?_
    refine hw_bin (w := (φ 43 4) + 1) (a0 := 0) (b := 0) (e := 0) (by decide +kernel) rfl ?_
    refine hr_pi (b := 4) (e := 4) 43 rfl (by decide +kernel) ?_
    refine hw_ald (b := 0) (e := 0) (by decide +kernel) (get_st1 (get_st1 rfl (by decide) (fun q => absurd q.1 (by decide))) (by decide) (fun q => absurd q.1 (by decide))) (by decide) ?_
    refine hr_gi (w := φ 43 1) (b := 4) (e := 1) 43 rfl (by decide +kernel) ((hf_up_ne (fun q => absurd q.2 (by decide))).trans ((hf_up_ne (fun q => absurd q.1 (by decide))).trans (hf_up_ne (fun q => absurd q.1 (by decide))))) ?_
    refine hw_k (c := (-1 : Int)) (b := 0) (e := 1) (by decide +kernel) ?_
    obtain ⟨hz9, hy9, ht9, hf9⟩ := H
    refine hw_if2 (a0 := 0) (b := 1) (e := 77) (by decide +kernel) hz9 hy9 (fun q => ?_) (fun q => ?_)
    · have H := ht9 q
      refine hw_ald (b := 1) (e := 0) (by decide +kernel) (get_st1 (get_st1 rfl (by decide) (fun q => absurd q.1 (by decide))) (by decide) (fun q => absurd q.1 (by decide))) (by decide) ?_
      refine hr_gr (w := 16) (b := 3) (e := 10) 5 rfl (by decide +kernel) ?_
      refine hw_ald (b := 0) (e := 0) (by decide +kernel) (get_st1 (get_st1 rfl (by decide) (fun q => absurd q.1 (by decide))) (by decide) (fun q => absurd q.1 (by decide))) (by decide) ?_
      refine hr_gi (w := φ 43 1) (b := 4) (e := 1) 43 rfl (by decide +kernel) ((hf_up_ne (fun q => absurd q.2 (by decide))).trans ((hf_up_ne (fun q => absurd q.1 (by decide))).trans (hf_up_ne (fun q => absurd q.1 (by decide))))) ?_
      refine hw_k (c := 8) (b := 1) (e := 2) (by decide +kernel) ?_
      refine hw_bin (w := (φ 43 1) * 8) (a0 := 0) (b := 2) (e := 0) (by decide +kernel) rfl ?_
      refine hw_ld (b := 3) (e := 0) (by decide +kernel) (get_st1 get_st1e (by decide) (fun q => tg0 q.2)) ?_
      refine hw_bin (w := ((φ 43 1) * 8) + z2) (a0 := 0) (b := 0) (e := 0) (by decide +kernel) rfl ?_
      obtain ⟨hl10, hu10, H⟩ := H
      refine hr_al (b := 0) (a0 := 0) (e := 0) (n := 64) (w := φ 16 ((((φ 43 1) * 8) + z2).toNat)) 16 rfl (by decide +kernel) (by decide) hl10 hu10 ((hf_up_ne (fun q => absurd q.1 (by decide))).trans ((hf_up_ne (fun q => absurd q.1 (by decide))).trans (hf_up_ne (fun q => absurd q.1 (by decide))))) ?_
      refine hw_st (L' := (jm_st1 (jm_st1 (jm_st1 [(0, (2, 43)), (1, (2, 5)), (2, (0, v2))] 3 (0, z2)) 4 (0, (φ 49 ((v2).toNat)) + 1)) 5 (0, φ 16 ((((φ 43 1) * 8) + z2).toNat)))) (b := 5) (e := 1) (by decide +kernel) rfl ?_
      refine hw_ld (b := 5) (e := 1) (by decide +kernel) get_st1e ?_
      refine hw_k (c := (-1 : Int)) (b := 0) (e := 1) (by decide +kernel) ?_
      obtain ⟨hz11, hy11, ht11, hf11⟩ := H
      refine hw_if2 (a0 := 0) (b := 0) (e := 133) (by decide +kernel) hz11 hy11 (fun q => ?_) (fun q => ?_)
      · have H := ht11 q
        refine hw_ald (b := 0) (e := 0) (by decide +kernel) (get_st1 (get_st1 (get_st1 rfl (by decide) (fun q => absurd q.1 (by decide))) (by decide) (fun q => absurd q.1 (by decide))) (by decide) (fun q => absurd q.1 (by decide))) (by decide) ?_
        refine hw_ld (b := 3) (e := 0) (by decide +kernel) (get_st1 (get_st1 get_st1e (by decide) (fun q => tg0 q.2)) (by decide) (fun q => absurd q.1 (by decide))) ?_
        refine hr_pi (b := 4) (e := 1) 43 rfl (by decide +kernel) ?_
        refine hw_ald (b := 0) (e := 0) (by decide +kernel) (get_st1 (get_st1 (get_st1 rfl (by decide) (fun q => absurd q.1 (by decide))) (by decide) (fun q => absurd q.1 (by decide))) (by decide) (fun q => absurd q.1 (by decide))) (by decide) ?_
        refine hw_ld (b := 2) (e := 0) (by decide +kernel) (get_st1 (get_st1 (get_st1 rfl (by decide) (fun q => tg0 q.2)) (by decide) (fun q => absurd q.1 (by decide))) (by decide) (fun q => absurd q.1 (by decide))) ?_
        refine hr_pi (b := 4) (e := 2) 43 rfl (by decide +kernel) ?_
        exact hw_vret (a0 := 0) (e := 0) (by decide +kernel) H
      · have H := hf11 q
        refine hw_ald (b := 0) (e := 0) (by decide +kernel) (get_st1 (get_st1 (get_st1 rfl (by decide) (fun q => absurd q.1 (by decide))) (by decide) (fun q => absurd q.1 (by decide))) (by decide) (fun q => absurd q.1 (by decide))) (by decide) ?_
        refine hw_ald (b := 0) (e := 0) (by decide +kernel) (get_st1 (get_st1 (get_st1 rfl (by decide) (fun q => absurd q.1 (by decide))) (by decide) (fun q => absurd q.1 (by decide))) (by decide) (fun q => absurd q.1 (by decide))) (by decide) ?_
        refine hr_gi (w := φ 43 3) (b := 4) (e := 3) 43 rfl (by decide +kernel) ((hf_up_ne (fun q => absurd q.2 (by decide))).trans ((hf_up_ne (fun q => absurd q.1 (by decide))).trans (hf_up_ne (fun q => absurd q.1 (by decide))))) ?_
        refine hw_k (c := 1) (b := 0) (e := 1) (by decide +kernel) ?_
        refine hw_ld (b := 5) (e := 1) (by decide +kernel) get_st1e ?_
        refine hw_bin (w := hb_shl 1 (φ 16 ((((φ 43 1) * 8) + z2).toNat))) (a0 := 0) (b := 6) (e := 0) (by decide +kernel) rfl ?_
        refine hw_bin (w := hb_or (φ 43 3) (hb_shl 1 (φ 16 ((((φ 43 1) * 8) + z2).toNat)))) (a0 := 0) (b := 4) (e := 0) (by decide +kernel) rfl ?_
        refine hw_ald (b := 1) (e := 0) (by decide +kernel) (get_st1 (get_st1 (get_st1 rfl (by decide) (fun q => absurd q.1 (by decide))) (by decide) (fun q => absurd q.1 (by decide))) (by decide) (fun q => absurd q.1 (by decide))) (by decide) ?_
        refine hr_gr (w := 15) (b := 3) (e := 9) 5 rfl (by decide +kernel) ?_
        refine hw_ld (b := 5) (e := 1) (by decide +kernel) get_st1e ?_
        obtain ⟨hl13, hu13, H⟩ := H
        refine hr_al (b := 0) (a0 := 0) (e := 0) (n := 8) (w := φ 15 ((φ 16 ((((φ 43 1) * 8) + z2).toNat)).toNat)) 15 rfl (by decide +kernel) (by decide) hl13 hu13 ((hf_up_ne (fun q => absurd q.1 (by decide))).trans ((hf_up_ne (fun q => absurd q.1 (by decide))).trans (hf_up_ne (fun q => absurd q.1 (by decide))))) ?_
        refine hw_k (c := (-1 : Int)) (b := 0) (e := 1) (by decide +kernel) ?_
        refine hw_bin (w := hb_xor (φ 15 ((φ 16 ((((φ 43 1) * 8) + z2).toNat)).toNat)) (-1 : Int)) (a0 := 0) (b := 5) (e := 0) (by decide +kernel) rfl ?_
        refine hw_bin (w := hb_and (hb_or (φ 43 3) (hb_shl 1 (φ 16 ((((φ 43 1) * 8) + z2).toNat)))) (hb_xor (φ 15 ((φ 16 ((((φ 43 1) * 8) + z2).toNat)).toNat)) (-1 : Int))) (a0 := 0) (b := 3) (e := 0) (by decide +kernel) rfl ?_
        refine hr_pi (b := 4) (e := 3) 43 rfl (by decide +kernel) ?_
        refine hw_ald (b := 0) (e := 0) (by decide +kernel) (get_st1 (get_st1 (get_st1 rfl (by decide) (fun q => absurd q.1 (by decide))) (by decide) (fun q => absurd q.1 (by decide))) (by decide) (fun q => absurd q.1 (by decide))) (by decide) ?_
        refine hr_gr (w := 51) (b := 4) (e := 13) 43 rfl (by decide +kernel) ?_
        refine hw_ld (b := 5) (e := 1) (by decide +kernel) get_st1e ?_
        refine hw_dup2 (a0 := 0) (e := 0) (by decide +kernel) (by decide) (by decide) ?_
        obtain ⟨hl14, hu14, H⟩ := H
        refine hr_al (b := 0) (a0 := 0) (e := 0) (n := 8) (w := φ 51 ((φ 16 ((((φ 43 1) * 8) + z2).toNat)).toNat)) 51 rfl (by decide +kernel) (by decide) hl14 hu14 ((hf_up_ne (fun q => absurd q.1 (by decide))).trans ((hf_up_ne (fun q => absurd q.1 (by decide))).trans ((hf_up_ne (fun q => absurd q.1 (by decide))).trans (hf_up_ne (fun q => absurd q.1 (by decide)))))) ?_
        refine hw_k (c := 1) (b := 0) (e := 1) (by decide +kernel) ?_
        refine hw_bin (w := (φ 51 ((φ 16 ((((φ 43 1) * 8) + z2).toNat)).toNat)) + 1) (a0 := 0) (b := 0) (e := 0) (by decide +kernel) rfl ?_
        obtain ⟨hl15, hu15, H⟩ := H
        refine hr_as (a0 := 0) (e := 4) (n := 8) 51 rfl (by decide +kernel) hl15 hu15 ?_
        refine hw_ald (b := 0) (e := 0) (by decide +kernel) (get_st1 (get_st1 (get_st1 rfl (by decide) (fun q => absurd q.1 (by decide))) (by decide) (fun q => absurd q.1 (by decide))) (by decide) (fun q => absurd q.1 (by decide))) (by decide) ?_
        refine hw_ld (b := 3) (e := 0) (by decide +kernel) (get_st1 (get_st1 get_st1e (by decide) (fun q => tg0 q.2)) (by decide) (fun q => absurd q.1 (by decide))) ?_
        refine hr_pi (b := 4) (e := 1) 43 rfl (by decide +kernel) ?_
        refine hw_ald (b := 0) (e := 0) (by decide +kernel) (get_st1 (get_st1 (get_st1 rfl (by decide) (fun q => absurd q.1 (by decide))) (by decide) (fun q => absurd q.1 (by decide))) (by decide) (fun q => absurd q.1 (by decide))) (by decide) ?_
        refine hw_ld (b := 2) (e := 0) (by decide +kernel) (get_st1 (get_st1 (get_st1 rfl (by decide) (fun q => tg0 q.2)) (by decide) (fun q => absurd q.1 (by decide))) (by decide) (fun q => absurd q.1 (by decide))) ?_
        refine hr_pi (b := 4) (e := 2) 43 rfl (by decide +kernel) ?_
        exact hw_vret (a0 := 0) (e := 0) (by decide +kernel) H
    · have H := hf9 q
      refine hw_k (c := (-1 : Int)) (b := 0) (e := 1) (by decide +kernel) ?_
      refine hw_goto (a0 := 0) (b := 0) (e := 91) (by decide +kernel) ?_
      refine hw_st (L' := (jm_st1 (jm_st1 (jm_st1 [(0, (2, 43)), (1, (2, 5)), (2, (0, v2))] 3 (0, z2)) 4 (0, (φ 49 ((v2).toNat)) + 1)) 5 (0, (-1 : Int)))) (b := 5) (e := 1) (by decide +kernel) rfl ?_
      refine hw_ld (b := 5) (e := 1) (by decide +kernel) get_st1e ?_
      refine hw_k (c := (-1 : Int)) (b := 0) (e := 1) (by decide +kernel) ?_
      refine hw_if2 (a0 := 0) (b := 0) (e := 133) (by decide +kernel) (by unfold hi; omega) (by unfold hi; omega) (fun _ => ?_) (fun q => absurd (show (-1 : Int) = (-1 : Int) by decide) q)
      refine hw_ald (b := 0) (e := 0) (by decide +kernel) (get_st1 (get_st1 (get_st1 rfl (by decide) (fun q => absurd q.1 (by decide))) (by decide) (fun q => absurd q.1 (by decide))) (by decide) (fun q => absurd q.1 (by decide))) (by decide) ?_
      refine hw_ld (b := 3) (e := 0) (by decide +kernel) (get_st1 (get_st1 get_st1e (by decide) (fun q => tg0 q.2)) (by decide) (fun q => absurd q.1 (by decide))) ?_
      refine hr_pi (b := 4) (e := 1) 43 rfl (by decide +kernel) ?_
      refine hw_ald (b := 0) (e := 0) (by decide +kernel) (get_st1 (get_st1 (get_st1 rfl (by decide) (fun q => absurd q.1 (by decide))) (by decide) (fun q => absurd q.1 (by decide))) (by decide) (fun q => absurd q.1 (by decide))) (by decide) ?_
      refine hw_ld (b := 2) (e := 0) (by decide +kernel) (get_st1 (get_st1 (get_st1 rfl (by decide) (fun q => tg0 q.2)) (by decide) (fun q => absurd q.1 (by decide))) (by decide) (fun q => absurd q.1 (by decide))) ?_
      refine hr_pi (b := 4) (e := 2) 43 rfl (by decide +kernel) ?_
      exact hw_vret (a0 := 0) (e := 0) (by decide +kernel) H
  · have H := hf5 q
    refine hw_ld (b := 4) (e := 1) (by decide +kernel) get_st1e ?_
    refine hw_goto (a0 := 0) (b := 0) (e := 44) (by decide +kernel) ?_
    obtain ⟨hl19, hu19, H⟩ := H
    refine hr_as (a0 := 0) (e := 4) (n := 6) 49 rfl (by decide +kernel) hl19 hu19 ?_
    refine hw_ald (b := 0) (e := 0) (by decide +kernel) (get_st1 (get_st1 rfl (by decide) (fun q => absurd q.1 (by decide))) (by decide) (fun q => absurd q.1 (by decide))) (by decide) ?_
    refine hr_gr (w := 50) (b := 4) (e := 12) 43 rfl (by decide +kernel) ?_
    refine hw_ld (b := 2) (e := 0) (by decide +kernel) (get_st1 (get_st1 rfl (by decide) (fun q => tg0 q.2)) (by decide) (fun q => absurd q.1 (by decide))) ?_
    refine hw_dup2 (a0 := 0) (e := 0) (by decide +kernel) (by decide) (by decide) ?_
    obtain ⟨hl20, hu20, H⟩ := H
    refine hr_al (b := 0) (a0 := 0) (e := 0) (n := 6) (w := φ 50 ((v2).toNat)) 50 rfl (by decide +kernel) (by decide) hl20 hu20 (hf_up_ne (fun q => absurd q.1 (by decide))) ?_
    refine hw_k (c := 1) (b := 0) (e := 1) (by decide +kernel) ?_
    refine hw_bin (w := (φ 50 ((v2).toNat)) + 1) (a0 := 0) (b := 0) (e := 0) (by decide +kernel) rfl ?_
    obtain ⟨hl21, hu21, H⟩ := H
    refine hr_as (a0 := 0) (e := 4) (n := 6) 50 rfl (by decide +kernel) hl21 hu21 ?_
    refine hw_ald (b := 0) (e := 0) (by decide +kernel) (get_st1 (get_st1 rfl (by decide) (fun q => absurd q.1 (by decide))) (by decide) (fun q => absurd q.1 (by decide))) (by decide) ?_
    refine hw_dup (a0 := 0) (e := 0) (by decide +kernel) (by decide) ?_
    refine hr_gi (w := φ 43 4) (b := 4) (e := 4) 43 rfl (by decide +kernel) ((hf_up_ne (fun q => absurd q.1 (by decide))).trans (hf_up_ne (fun q => absurd q.1 (by decide)))) ?_
    refine hw_k (c := 1) (b := 0) (e := 1) (by decide +kernel) ?_
    refine hw_bin (w := (φ 43 4) + 1) (a0 := 0) (b := 0) (e := 0) (by decide +kernel) rfl ?_
    refine hr_pi (b := 4) (e := 4) 43 rfl (by decide +kernel) ?_
    refine hw_ald (b := 0) (e := 0) (by decide +kernel) (get_st1 (get_st1 rfl (by decide) (fun q => absurd q.1 (by decide))) (by decide) (fun q => absurd q.1 (by decide))) (by decide) ?_
    refine hr_gi (w := φ 43 1) (b := 4) (e := 1) 43 rfl (by decide +kernel) ((hf_up_ne (fun q => absurd q.2 (by decide))).trans ((hf_up_ne (fun q => absurd q.1 (by decide))).trans (hf_up_ne (fun q => absurd q.1 (by decide))))) ?_
    refine hw_k (c := (-1 : Int)) (b := 0) (e := 1) (by decide +kernel) ?_
    obtain ⟨hz22, hy22, ht22, hf22⟩ := H
    refine hw_if2 (a0 := 0) (b := 1) (e := 77) (by decide +kernel) hz22 hy22 (fun q => ?_) (fun q => ?_)
    · have H := ht22 q
      refine hw_ald (b := 1) (e := 0) (by decide +kernel) (get_st1 (get_st1 rfl (by decide) (fun q => absurd q.1 (by decide))) (by decide) (fun q => absurd q.1 (by decide))) (by decide) ?_
      refine hr_gr (w := 16) (b := 3) (e := 10) 5 rfl (by decide +kernel) ?_
      refine hw_ald (b := 0) (e := 0) (by decide +kernel) (get_st1 (get_st1 rfl (by decide) (fun q => absurd q.1 (by decide))) (by decide) (fun q => absurd q.1 (by decide))) (by decide) ?_
      refine hr_gi (w := φ 43 1) (b := 4) (e := 1) 43 rfl (by decide +kernel) ((hf_up_ne (fun q => absurd q.2 (by decide))).trans ((hf_up_ne (fun q => absurd q.1 (by decide))).trans (hf_up_ne (fun q => absurd q.1 (by decide))))) ?_
      refine hw_k (c := 8) (b := 1) (e := 2) (by decide +kernel) ?_
      refine hw_bin (w := (φ 43 1) * 8) (a0 := 0) (b := 2) (e := 0) (by decide +kernel) rfl ?_
      refine hw_ld (b := 3) (e := 0) (by decide +kernel) (get_st1 get_st1e (by decide) (fun q => tg0 q.2)) ?_
      refine hw_bin (w := ((φ 43 1) * 8) + z2) (a0 := 0) (b := 0) (e := 0) (by decide +kernel) rfl ?_
      obtain ⟨hl23, hu23, H⟩ := H
      refine hr_al (b := 0) (a0 := 0) (e := 0) (n := 64) (w := φ 16 ((((φ 43 1) * 8) + z2).toNat)) 16 rfl (by decide +kernel) (by decide) hl23 hu23 ((hf_up_ne (fun q => absurd q.1 (by decide))).trans ((hf_up_ne (fun q => absurd q.1 (by decide))).trans (hf_up_ne (fun q => absurd q.1 (by decide))))) ?_
      refine hw_st (L' := (jm_st1 (jm_st1 (jm_st1 [(0, (2, 43)), (1, (2, 5)), (2, (0, v2))] 3 (0, z2)) 4 (0, (φ 49 ((v2).toNat)) + 1)) 5 (0, φ 16 ((((φ 43 1) * 8) + z2).toNat)))) (b := 5) (e := 1) (by decide +kernel) rfl ?_
      refine hw_ld (b := 5) (e := 1) (by decide +kernel) get_st1e ?_
      refine hw_k (c := (-1 : Int)) (b := 0) (e := 1) (by decide +kernel) ?_
      obtain ⟨hz24, hy24, ht24, hf24⟩ := H
      refine hw_if2 (a0 := 0) (b := 0) (e := 133) (by decide +kernel) hz24 hy24 (fun q => ?_) (fun q => ?_)
      · have H := ht24 q
        refine hw_ald (b := 0) (e := 0) (by decide +kernel) (get_st1 (get_st1 (get_st1 rfl (by decide) (fun q => absurd q.1 (by decide))) (by decide) (fun q => absurd q.1 (by decide))) (by decide) (fun q => absurd q.1 (by decide))) (by decide) ?_
        refine hw_ld (b := 3) (e := 0) (by decide +kernel) (get_st1 (get_st1 get_st1e (by decide) (fun q => tg0 q.2)) (by decide) (fun q => absurd q.1 (by decide))) ?_
        refine hr_pi (b := 4) (e := 1) 43 rfl (by decide +kernel) ?_
        refine hw_ald (b := 0) (e := 0) (by decide +kernel) (get_st1 (get_st1 (get_st1 rfl (by decide) (fun q => absurd q.1 (by decide))) (by decide) (fun q => absurd q.1 (by decide))) (by decide) (fun q => absurd q.1 (by decide))) (by decide) ?_
        refine hw_ld (b := 2) (e := 0) (by decide +kernel) (get_st1 (get_st1 (get_st1 rfl (by decide) (fun q => tg0 q.2)) (by decide) (fun q => absurd q.1 (by decide))) (by decide) (fun q => absurd q.1 (by decide))) ?_
        refine hr_pi (b := 4) (e := 2) 43 rfl (by decide +kernel) ?_
        exact hw_vret (a0 := 0) (e := 0) (by decide +kernel) H
      · have H := hf24 q
        refine hw_ald (b := 0) (e := 0) (by decide +kernel) (get_st1 (get_st1 (get_st1 rfl (by decide) (fun q => absurd q.1 (by decide))) (by decide) (fun q => absurd q.1 (by decide))) (by decide) (fun q => absurd q.1 (by decide))) (by decide) ?_
        refine hw_ald (b := 0) (e := 0) (by decide +kernel) (get_st1 (get_st1 (get_st1 rfl (by decide) (fun q => absurd q.1 (by decide))) (by decide) (fun q => absurd q.1 (by decide))) (by decide) (fun q => absurd q.1 (by decide))) (by decide) ?_
        refine hr_gi (w := φ 43 3) (b := 4) (e := 3) 43 rfl (by decide +kernel) ((hf_up_ne (fun q => absurd q.2 (by decide))).trans ((hf_up_ne (fun q => absurd q.1 (by decide))).trans (hf_up_ne (fun q => absurd q.1 (by decide))))) ?_
        refine hw_k (c := 1) (b := 0) (e := 1) (by decide +kernel) ?_
        refine hw_ld (b := 5) (e := 1) (by decide +kernel) get_st1e ?_
        refine hw_bin (w := hb_shl 1 (φ 16 ((((φ 43 1) * 8) + z2).toNat))) (a0 := 0) (b := 6) (e := 0) (by decide +kernel) rfl ?_
        refine hw_bin (w := hb_or (φ 43 3) (hb_shl 1 (φ 16 ((((φ 43 1) * 8) + z2).toNat)))) (a0 := 0) (b := 4) (e := 0) (by decide +kernel) rfl ?_
        refine hw_ald (b := 1) (e := 0) (by decide +kernel) (get_st1 (get_st1 (get_st1 rfl (by decide) (fun q => absurd q.1 (by decide))) (by decide) (fun q => absurd q.1 (by decide))) (by decide) (fun q => absurd q.1 (by decide))) (by decide) ?_
        refine hr_gr (w := 15) (b := 3) (e := 9) 5 rfl (by decide +kernel) ?_
        refine hw_ld (b := 5) (e := 1) (by decide +kernel) get_st1e ?_
        obtain ⟨hl26, hu26, H⟩ := H
        refine hr_al (b := 0) (a0 := 0) (e := 0) (n := 8) (w := φ 15 ((φ 16 ((((φ 43 1) * 8) + z2).toNat)).toNat)) 15 rfl (by decide +kernel) (by decide) hl26 hu26 ((hf_up_ne (fun q => absurd q.1 (by decide))).trans ((hf_up_ne (fun q => absurd q.1 (by decide))).trans (hf_up_ne (fun q => absurd q.1 (by decide))))) ?_
        refine hw_k (c := (-1 : Int)) (b := 0) (e := 1) (by decide +kernel) ?_
        refine hw_bin (w := hb_xor (φ 15 ((φ 16 ((((φ 43 1) * 8) + z2).toNat)).toNat)) (-1 : Int)) (a0 := 0) (b := 5) (e := 0) (by decide +kernel) rfl ?_
        refine hw_bin (w := hb_and (hb_or (φ 43 3) (hb_shl 1 (φ 16 ((((φ 43 1) * 8) + z2).toNat)))) (hb_xor (φ 15 ((φ 16 ((((φ 43 1) * 8) + z2).toNat)).toNat)) (-1 : Int))) (a0 := 0) (b := 3) (e := 0) (by decide +kernel) rfl ?_
        refine hr_pi (b := 4) (e := 3) 43 rfl (by decide +kernel) ?_
        refine hw_ald (b := 0) (e := 0) (by decide +kernel) (get_st1 (get_st1 (get_st1 rfl (by decide) (fun q => absurd q.1 (by decide))) (by decide) (fun q => absurd q.1 (by decide))) (by decide) (fun q => absurd q.1 (by decide))) (by decide) ?_
        refine hr_gr (w := 51) (b := 4) (e := 13) 43 rfl (by decide +kernel) ?_
        refine hw_ld (b := 5) (e := 1) (by decide +kernel) get_st1e ?_
        refine hw_dup2 (a0 := 0) (e := 0) (by decide +kernel) (by decide) (by decide) ?_
        obtain ⟨hl27, hu27, H⟩ := H
        refine hr_al (b := 0) (a0 := 0) (e := 0) (n := 8) (w := φ 51 ((φ 16 ((((φ 43 1) * 8) + z2).toNat)).toNat)) 51 rfl (by decide +kernel) (by decide) hl27 hu27 ((hf_up_ne (fun q => absurd q.1 (by decide))).trans ((hf_up_ne (fun q => absurd q.1 (by decide))).trans ((hf_up_ne (fun q => absurd q.1 (by decide))).trans (hf_up_ne (fun q => absurd q.1 (by decide)))))) ?_
        refine hw_k (c := 1) (b := 0) (e := 1) (by decide +kernel) ?_
        refine hw_bin (w := (φ 51 ((φ 16 ((((φ 43 1) * 8) + z2).toNat)).toNat)) + 1) (a0 := 0) (b := 0) (e := 0) (by decide +kernel) rfl ?_
        obtain ⟨hl28, hu28, H⟩ := H
        refine hr_as (a0 := 0) (e := 4) (n := 8) 51 rfl (by decide +kernel) hl28 hu28 ?_
        refine hw_ald (b := 0) (e := 0) (by decide +kernel) (get_st1 (get_st1 (get_st1 rfl (by decide) (fun q => absurd q.1 (by decide))) (by decide) (fun q => absurd q.1 (by decide))) (by decide) (fun q => absurd q.1 (by decide))) (by decide) ?_
        refine hw_ld (b := 3) (e := 0) (by decide +kernel) (get_st1 (get_st1 get_st1e (by decide) (fun q => tg0 q.2)) (by decide) (fun q => absurd q.1 (by decide))) ?_
        refine hr_pi (b := 4) (e := 1) 43 rfl (by decide +kernel) ?_
        refine hw_ald (b := 0) (e := 0) (by decide +kernel) (get_st1 (get_st1 (get_st1 rfl (by decide) (fun q => absurd q.1 (by decide))) (by decide) (fun q => absurd q.1 (by decide))) (by decide) (fun q => absurd q.1 (by decide))) (by decide) ?_
        refine hw_ld (b := 2) (e := 0) (by decide +kernel) (get_st1 (get_st1 (get_st1 rfl (by decide) (fun q => tg0 q.2)) (by decide) (fun q => absurd q.1 (by decide))) (by decide) (fun q => absurd q.1 (by decide))) ?_
        refine hr_pi (b := 4) (e := 2) 43 rfl (by decide +kernel) ?_
        exact hw_vret (a0 := 0) (e := 0) (by decide +kernel) H
    · have H := hf22 q
      refine hw_k (c := (-1 : Int)) (b := 0) (e := 1) (by decide +kernel) ?_
      refine hw_goto (a0 := 0) (b := 0) (e := 91) (by decide +kernel) ?_
      refine hw_st (L' := (jm_st1 (jm_st1 (jm_st1 [(0, (2, 43)), (1, (2, 5)), (2, (0, v2))] 3 (0, z2)) 4 (0, (φ 49 ((v2).toNat)) + 1)) 5 (0, (-1 : Int)))) (b := 5) (e := 1) (by decide +kernel) rfl ?_
      refine hw_ld (b := 5) (e := 1) (by decide +kernel) get_st1e ?_
      refine hw_k (c := (-1 : Int)) (b := 0) (e := 1) (by decide +kernel) ?_
      refine hw_if2 (a0 := 0) (b := 0) (e := 133) (by decide +kernel) (by unfold hi; omega) (by unfold hi; omega) (fun _ => ?_) (fun q => absurd (show (-1 : Int) = (-1 : Int) by decide) q)
      refine hw_ald (b := 0) (e := 0) (by decide +kernel) (get_st1 (get_st1 (get_st1 rfl (by decide) (fun q => absurd q.1 (by decide))) (by decide) (fun q => absurd q.1 (by decide))) (by decide) (fun q => absurd q.1 (by decide))) (by decide) ?_
      refine hw_ld (b := 3) (e := 0) (by decide +kernel) (get_st1 (get_st1 get_st1e (by decide) (fun q => tg0 q.2)) (by decide) (fun q => absurd q.1 (by decide))) ?_
      refine hr_pi (b := 4) (e := 1) 43 rfl (by decide +kernel) ?_
      refine hw_ald (b := 0) (e := 0) (by decide +kernel) (get_st1 (get_st1 (get_st1 rfl (by decide) (fun q => absurd q.1 (by decide))) (by decide) (fun q => absurd q.1 (by decide))) (by decide) (fun q => absurd q.1 (by decide))) (by decide) ?_
      refine hw_ld (b := 2) (e := 0) (by decide +kernel) (get_st1 (get_st1 (get_st1 rfl (by decide) (fun q => tg0 q.2)) (by decide) (fun q => absurd q.1 (by decide))) (by decide) (fun q => absurd q.1 (by decide))) ?_
      refine hr_pi (b := 4) (e := 2) 43 rfl (by decide +kernel) ?_
      exact hw_vret (a0 := 0) (e := 0) (by decide +kernel) H
theorem sf_93_43_5 {sc : List Int} {d : Nat} {φ : hf_F} {x : Nat} {Q : Option jm_V → hf_F → Nat → Prop} {v2 : Int} (hI : Inv φ) (h2a : 0 ≤ v2) (h2b : v2 ≤ 5) (hx0 : 1 ≤ φ 47 ((v2).toNat) ∧ φ 47 ((v2).toNat) ≤ 6) (hQ : ∀ ψ : hf_F, Inv ψ → Fr [49, 50, 51, 44001, 44002, 44003, 44004] φ ψ → F_State_speak_43_5 φ v2 = ψ → Q none ψ x) : hw sc (d + 1) 93 0 [(0, (2, 43)), (1, (2, 5)), (2, (0, v2))] [] φ x Q := by
  apply sf_93_43_5_v
  have e0 : F_State_speak_43_5 φ v2 = _ := rfl
  refine ⟨by omega, by omega, ?_⟩
  have f1 := iv_ar (a := 49) (s := 0) (t := 6) (lo := 0) (u := 5) (z := v2) hI (by decide +kernel) (by omega) (by omega)
  refine sf_71_43 (φ := φ) hI (by omega) (by omega) (by omega) (by omega) (fun z2 hp2 hE2 => ⟨rfl, rfl, z2, rfl, ?_⟩)
  have e2 := e0.trans (bnp_e hE2)
  refine ⟨by omega, by omega, ?_⟩
  refine ⟨by omega, by omega, ?_⟩
  have f2 := iv_ar (a := 47) (s := 0) (t := 6) (lo := 0) (u := 6) (z := v2) hI (by decide +kernel) (by omega) (by omega)
  refine ⟨by unfold hi; omega, by unfold hi; omega, fun q5 => ?_, fun q5 => ?_⟩
  · skip
    have e5a := e2.trans (if_pos q5)
    refine ⟨by omega, by omega, ?_⟩
    have i3 : Inv (hf_up φ 49 ((v2).toNat) 0) := iv_upI (s := 0) (t := 6) (lo := 0) (u := 5) (z := v2) hI (by decide +kernel) (by omega) (by omega) (by omega) (by omega)
    have r3 : Fr [49, 50, 51, 44001, 44002, 44003, 44004] φ (hf_up φ 49 ((v2).toNat) 0) := fr_upa (fr_rf) (by decide)
    refine ⟨by omega, by omega, ?_⟩
    refine ⟨by omega, by omega, ?_⟩
    have i4 : Inv (hf_up (hf_up φ 49 ((v2).toNat) 0) 50 ((v2).toNat) ((φ 50 ((v2).toNat)) + 1)) := iv_upIn i3 (by decide) (by decide +kernel)
    have r4 : Fr [49, 50, 51, 44001, 44002, 44003, 44004] φ (hf_up (hf_up φ 49 ((v2).toNat) 0) 50 ((v2).toNat) ((φ 50 ((v2).toNat)) + 1)) := fr_upa r3 (by decide)
    have i5 : Inv (hf_up (hf_up (hf_up φ 49 ((v2).toNat) 0) 50 ((v2).toNat) ((φ 50 ((v2).toNat)) + 1)) 43 4 ((φ 43 4) + 1)) := iv_upn i4 (by decide) (by decide) (by decide +kernel)
    have r5 : Fr [49, 50, 51, 44001, 44002, 44003, 44004] φ (hf_up (hf_up (hf_up φ 49 ((v2).toNat) 0) 50 ((v2).toNat) ((φ 50 ((v2).toNat)) + 1)) 43 4 ((φ 43 4) + 1)) := fr_up r4 (by decide)
    have f6 := iv_at (a := 43) (k := 1) (lo := (-1 : Int)) (u := 7) hI (by decide +kernel)
    refine ⟨by unfold hi; omega, by unfold hi; omega, fun q9 => ?_, fun q9 => ?_⟩
    · skip
      have e9a := e5a.trans (if_pos q9)
      refine ⟨by omega, by omega, ?_⟩
      have f7 := iv_ar (a := 16) (s := 0) (t := 64) (lo := (-1 : Int)) (u := 7) (z := ((φ 43 1) * 8) + z2) hI (by decide +kernel) (by omega) (by omega)
      refine ⟨by unfold hi; omega, by unfold hi; omega, fun q11 => ?_, fun q11 => ?_⟩
      · skip
        have e11a := e9a.trans (if_pos q11)
        have i8 : Inv (hf_up (hf_up (hf_up (hf_up φ 49 ((v2).toNat) 0) 50 ((v2).toNat) ((φ 50 ((v2).toNat)) + 1)) 43 4 ((φ 43 4) + 1)) 43 1 z2) := iv_up (lo := (-1 : Int)) (u := 7) i5 (by decide +kernel) (by omega) (by omega)
        have r8 : Fr [49, 50, 51, 44001, 44002, 44003, 44004] φ (hf_up (hf_up (hf_up (hf_up φ 49 ((v2).toNat) 0) 50 ((v2).toNat) ((φ 50 ((v2).toNat)) + 1)) 43 4 ((φ 43 4) + 1)) 43 1 z2) := fr_up r5 (by decide)
        have i9 : Inv (hf_up (hf_up (hf_up (hf_up (hf_up φ 49 ((v2).toNat) 0) 50 ((v2).toNat) ((φ 50 ((v2).toNat)) + 1)) 43 4 ((φ 43 4) + 1)) 43 1 z2) 43 2 v2) := iv_up (lo := (-1 : Int)) (u := 5) i8 (by decide +kernel) (by omega) (by omega)
        have r9 : Fr [49, 50, 51, 44001, 44002, 44003, 44004] φ (hf_up (hf_up (hf_up (hf_up (hf_up φ 49 ((v2).toNat) 0) 50 ((v2).toNat) ((φ 50 ((v2).toNat)) + 1)) 43 4 ((φ 43 4) + 1)) 43 1 z2) 43 2 v2) := fr_up r8 (by decide)
        exact hQ (hf_up (hf_up (hf_up (hf_up (hf_up φ 49 ((v2).toNat) 0) 50 ((v2).toNat) ((φ 50 ((v2).toNat)) + 1)) 43 4 ((φ 43 4) + 1)) 43 1 z2) 43 2 v2) i9 r9 e11a
      · skip
        have e11b := e9a.trans (if_neg q11)
        have f10 := iv_at (a := 43) (k := 3) (lo := (-2147483648 : Int)) (u := 2147483647) hI (by decide +kernel)
        have f11 := hr_shl1 (φ 16 ((((φ 43 1) * 8) + z2).toNat))
        have f12 := hr_shl 1 (φ 16 ((((φ 43 1) * 8) + z2).toNat))
        have f13 := hr_or (φ 43 3) (hb_shl 1 (φ 16 ((((φ 43 1) * 8) + z2).toNat)))
        refine ⟨by omega, by omega, ?_⟩
        have f14 := iv_ar (a := 15) (s := 0) (t := 8) (lo := (-2147483648 : Int)) (u := 2147483647) (z := φ 16 ((((φ 43 1) * 8) + z2).toNat)) hI (by decide +kernel) (by omega) (by omega)
        have f15 := hr_xor (φ 15 ((φ 16 ((((φ 43 1) * 8) + z2).toNat)).toNat)) (-1 : Int)
        have f16 := hr_and0 (hb_or (φ 43 3) (hb_shl 1 (φ 16 ((((φ 43 1) * 8) + z2).toNat)))) (hb_xor (φ 15 ((φ 16 ((((φ 43 1) * 8) + z2).toNat)).toNat)) (-1 : Int))
        have f17 := hr_and (hb_or (φ 43 3) (hb_shl 1 (φ 16 ((((φ 43 1) * 8) + z2).toNat)))) (hb_xor (φ 15 ((φ 16 ((((φ 43 1) * 8) + z2).toNat)).toNat)) (-1 : Int))
        have i18 : Inv (hf_up (hf_up (hf_up (hf_up φ 49 ((v2).toNat) 0) 50 ((v2).toNat) ((φ 50 ((v2).toNat)) + 1)) 43 4 ((φ 43 4) + 1)) 43 3 (hb_and (hb_or (φ 43 3) (hb_shl 1 (φ 16 ((((φ 43 1) * 8) + z2).toNat)))) (hb_xor (φ 15 ((φ 16 ((((φ 43 1) * 8) + z2).toNat)).toNat)) (-1 : Int)))) := iv_up (lo := (-2147483648 : Int)) (u := 2147483647) i5 (by decide +kernel) (by omega) (by omega)
        have r18 : Fr [49, 50, 51, 44001, 44002, 44003, 44004] φ (hf_up (hf_up (hf_up (hf_up φ 49 ((v2).toNat) 0) 50 ((v2).toNat) ((φ 50 ((v2).toNat)) + 1)) 43 4 ((φ 43 4) + 1)) 43 3 (hb_and (hb_or (φ 43 3) (hb_shl 1 (φ 16 ((((φ 43 1) * 8) + z2).toNat)))) (hb_xor (φ 15 ((φ 16 ((((φ 43 1) * 8) + z2).toNat)).toNat)) (-1 : Int)))) := fr_up r5 (by decide)
        refine ⟨by omega, by omega, ?_⟩
        refine ⟨by omega, by omega, ?_⟩
        have i19 : Inv (hf_up (hf_up (hf_up (hf_up (hf_up φ 49 ((v2).toNat) 0) 50 ((v2).toNat) ((φ 50 ((v2).toNat)) + 1)) 43 4 ((φ 43 4) + 1)) 43 3 (hb_and (hb_or (φ 43 3) (hb_shl 1 (φ 16 ((((φ 43 1) * 8) + z2).toNat)))) (hb_xor (φ 15 ((φ 16 ((((φ 43 1) * 8) + z2).toNat)).toNat)) (-1 : Int)))) 51 ((φ 16 ((((φ 43 1) * 8) + z2).toNat)).toNat) ((φ 51 ((φ 16 ((((φ 43 1) * 8) + z2).toNat)).toNat)) + 1)) := iv_upIn i18 (by decide) (by decide +kernel)
        have r19 : Fr [49, 50, 51, 44001, 44002, 44003, 44004] φ (hf_up (hf_up (hf_up (hf_up (hf_up φ 49 ((v2).toNat) 0) 50 ((v2).toNat) ((φ 50 ((v2).toNat)) + 1)) 43 4 ((φ 43 4) + 1)) 43 3 (hb_and (hb_or (φ 43 3) (hb_shl 1 (φ 16 ((((φ 43 1) * 8) + z2).toNat)))) (hb_xor (φ 15 ((φ 16 ((((φ 43 1) * 8) + z2).toNat)).toNat)) (-1 : Int)))) 51 ((φ 16 ((((φ 43 1) * 8) + z2).toNat)).toNat) ((φ 51 ((φ 16 ((((φ 43 1) * 8) + z2).toNat)).toNat)) + 1)) := fr_upa r18 (by decide)
        have i20 : Inv (hf_up (hf_up (hf_up (hf_up (hf_up (hf_up φ 49 ((v2).toNat) 0) 50 ((v2).toNat) ((φ 50 ((v2).toNat)) + 1)) 43 4 ((φ 43 4) + 1)) 43 3 (hb_and (hb_or (φ 43 3) (hb_shl 1 (φ 16 ((((φ 43 1) * 8) + z2).toNat)))) (hb_xor (φ 15 ((φ 16 ((((φ 43 1) * 8) + z2).toNat)).toNat)) (-1 : Int)))) 51 ((φ 16 ((((φ 43 1) * 8) + z2).toNat)).toNat) ((φ 51 ((φ 16 ((((φ 43 1) * 8) + z2).toNat)).toNat)) + 1)) 43 1 z2) := iv_up (lo := (-1 : Int)) (u := 7) i19 (by decide +kernel) (by omega) (by omega)
        have r20 : Fr [49, 50, 51, 44001, 44002, 44003, 44004] φ (hf_up (hf_up (hf_up (hf_up (hf_up (hf_up φ 49 ((v2).toNat) 0) 50 ((v2).toNat) ((φ 50 ((v2).toNat)) + 1)) 43 4 ((φ 43 4) + 1)) 43 3 (hb_and (hb_or (φ 43 3) (hb_shl 1 (φ 16 ((((φ 43 1) * 8) + z2).toNat)))) (hb_xor (φ 15 ((φ 16 ((((φ 43 1) * 8) + z2).toNat)).toNat)) (-1 : Int)))) 51 ((φ 16 ((((φ 43 1) * 8) + z2).toNat)).toNat) ((φ 51 ((φ 16 ((((φ 43 1) * 8) + z2).toNat)).toNat)) + 1)) 43 1 z2) := fr_up r19 (by decide)
        have i21 : Inv (hf_up (hf_up (hf_up (hf_up (hf_up (hf_up (hf_up φ 49 ((v2).toNat) 0) 50 ((v2).toNat) ((φ 50 ((v2).toNat)) + 1)) 43 4 ((φ 43 4) + 1)) 43 3 (hb_and (hb_or (φ 43 3) (hb_shl 1 (φ 16 ((((φ 43 1) * 8) + z2).toNat)))) (hb_xor (φ 15 ((φ 16 ((((φ 43 1) * 8) + z2).toNat)).toNat)) (-1 : Int)))) 51 ((φ 16 ((((φ 43 1) * 8) + z2).toNat)).toNat) ((φ 51 ((φ 16 ((((φ 43 1) * 8) + z2).toNat)).toNat)) + 1)) 43 1 z2) 43 2 v2) := iv_up (lo := (-1 : Int)) (u := 5) i20 (by decide +kernel) (by omega) (by omega)
        have r21 : Fr [49, 50, 51, 44001, 44002, 44003, 44004] φ (hf_up (hf_up (hf_up (hf_up (hf_up (hf_up (hf_up φ 49 ((v2).toNat) 0) 50 ((v2).toNat) ((φ 50 ((v2).toNat)) + 1)) 43 4 ((φ 43 4) + 1)) 43 3 (hb_and (hb_or (φ 43 3) (hb_shl 1 (φ 16 ((((φ 43 1) * 8) + z2).toNat)))) (hb_xor (φ 15 ((φ 16 ((((φ 43 1) * 8) + z2).toNat)).toNat)) (-1 : Int)))) 51 ((φ 16 ((((φ 43 1) * 8) + z2).toNat)).toNat) ((φ 51 ((φ 16 ((((φ 43 1) * 8) + z2).toNat)).toNat)) + 1)) 43 1 z2) 43 2 v2) := fr_up r20 (by decide)
        exact hQ (hf_up (hf_up (hf_up (hf_up (hf_up (hf_up (hf_up φ 49 ((v2).toNat) 0) 50 ((v2).toNat) ((φ 50 ((v2).toNat)) + 1)) 43 4 ((φ 43 4) + 1)) 43 3 (hb_and (hb_or (φ 43 3) (hb_shl 1 (φ 16 ((((φ 43 1) * 8) + z2).toNat)))) (hb_xor (φ 15 ((φ 16 ((((φ 43 1) * 8) + z2).toNat)).toNat)) (-1 : Int)))) 51 ((φ 16 ((((φ 43 1) * 8) + z2).toNat)).toNat) ((φ 51 ((φ 16 ((((φ 43 1) * 8) + z2).toNat)).toNat)) + 1)) 43 1 z2) 43 2 v2) i21 r21 e11b
    · skip
      have e9b := e5a.trans (if_neg q9)
      have i22 : Inv (hf_up (hf_up (hf_up (hf_up φ 49 ((v2).toNat) 0) 50 ((v2).toNat) ((φ 50 ((v2).toNat)) + 1)) 43 4 ((φ 43 4) + 1)) 43 1 z2) := iv_up (lo := (-1 : Int)) (u := 7) i5 (by decide +kernel) (by omega) (by omega)
      have r22 : Fr [49, 50, 51, 44001, 44002, 44003, 44004] φ (hf_up (hf_up (hf_up (hf_up φ 49 ((v2).toNat) 0) 50 ((v2).toNat) ((φ 50 ((v2).toNat)) + 1)) 43 4 ((φ 43 4) + 1)) 43 1 z2) := fr_up r5 (by decide)
      have i23 : Inv (hf_up (hf_up (hf_up (hf_up (hf_up φ 49 ((v2).toNat) 0) 50 ((v2).toNat) ((φ 50 ((v2).toNat)) + 1)) 43 4 ((φ 43 4) + 1)) 43 1 z2) 43 2 v2) := iv_up (lo := (-1 : Int)) (u := 5) i22 (by decide +kernel) (by omega) (by omega)
      have r23 : Fr [49, 50, 51, 44001, 44002, 44003, 44004] φ (hf_up (hf_up (hf_up (hf_up (hf_up φ 49 ((v2).toNat) 0) 50 ((v2).toNat) ((φ 50 ((v2).toNat)) + 1)) 43 4 ((φ 43 4) + 1)) 43 1 z2) 43 2 v2) := fr_up r22 (by decide)
      exact hQ (hf_up (hf_up (hf_up (hf_up (hf_up φ 49 ((v2).toNat) 0) 50 ((v2).toNat) ((φ 50 ((v2).toNat)) + 1)) 43 4 ((φ 43 4) + 1)) 43 1 z2) 43 2 v2) i23 r23 e9b
  · skip
    have e5b := e2.trans (if_neg q5)
    refine ⟨by omega, by omega, ?_⟩
    have i24 : Inv (hf_up φ 49 ((v2).toNat) ((φ 49 ((v2).toNat)) + 1)) := iv_upI (s := 0) (t := 6) (lo := 0) (u := 5) (z := v2) hI (by decide +kernel) (by omega) (by omega) (by omega) (by omega)
    have r24 : Fr [49, 50, 51, 44001, 44002, 44003, 44004] φ (hf_up φ 49 ((v2).toNat) ((φ 49 ((v2).toNat)) + 1)) := fr_upa (fr_rf) (by decide)
    refine ⟨by omega, by omega, ?_⟩
    refine ⟨by omega, by omega, ?_⟩
    have i25 : Inv (hf_up (hf_up φ 49 ((v2).toNat) ((φ 49 ((v2).toNat)) + 1)) 50 ((v2).toNat) ((φ 50 ((v2).toNat)) + 1)) := iv_upIn i24 (by decide) (by decide +kernel)
    have r25 : Fr [49, 50, 51, 44001, 44002, 44003, 44004] φ (hf_up (hf_up φ 49 ((v2).toNat) ((φ 49 ((v2).toNat)) + 1)) 50 ((v2).toNat) ((φ 50 ((v2).toNat)) + 1)) := fr_upa r24 (by decide)
    have i26 : Inv (hf_up (hf_up (hf_up φ 49 ((v2).toNat) ((φ 49 ((v2).toNat)) + 1)) 50 ((v2).toNat) ((φ 50 ((v2).toNat)) + 1)) 43 4 ((φ 43 4) + 1)) := iv_upn i25 (by decide) (by decide) (by decide +kernel)
    have r26 : Fr [49, 50, 51, 44001, 44002, 44003, 44004] φ (hf_up (hf_up (hf_up φ 49 ((v2).toNat) ((φ 49 ((v2).toNat)) + 1)) 50 ((v2).toNat) ((φ 50 ((v2).toNat)) + 1)) 43 4 ((φ 43 4) + 1)) := fr_up r25 (by decide)
    have f27 := iv_at (a := 43) (k := 1) (lo := (-1 : Int)) (u := 7) hI (by decide +kernel)
    refine ⟨by unfold hi; omega, by unfold hi; omega, fun q22 => ?_, fun q22 => ?_⟩
    · skip
      have e22a := e5b.trans (if_pos q22)
      refine ⟨by omega, by omega, ?_⟩
      have f28 := iv_ar (a := 16) (s := 0) (t := 64) (lo := (-1 : Int)) (u := 7) (z := ((φ 43 1) * 8) + z2) hI (by decide +kernel) (by omega) (by omega)
      refine ⟨by unfold hi; omega, by unfold hi; omega, fun q24 => ?_, fun q24 => ?_⟩
      · skip
        have e24a := e22a.trans (if_pos q24)
        have i29 : Inv (hf_up (hf_up (hf_up (hf_up φ 49 ((v2).toNat) ((φ 49 ((v2).toNat)) + 1)) 50 ((v2).toNat) ((φ 50 ((v2).toNat)) + 1)) 43 4 ((φ 43 4) + 1)) 43 1 z2) := iv_up (lo := (-1 : Int)) (u := 7) i26 (by decide +kernel) (by omega) (by omega)
        have r29 : Fr [49, 50, 51, 44001, 44002, 44003, 44004] φ (hf_up (hf_up (hf_up (hf_up φ 49 ((v2).toNat) ((φ 49 ((v2).toNat)) + 1)) 50 ((v2).toNat) ((φ 50 ((v2).toNat)) + 1)) 43 4 ((φ 43 4) + 1)) 43 1 z2) := fr_up r26 (by decide)
        have i30 : Inv (hf_up (hf_up (hf_up (hf_up (hf_up φ 49 ((v2).toNat) ((φ 49 ((v2).toNat)) + 1)) 50 ((v2).toNat) ((φ 50 ((v2).toNat)) + 1)) 43 4 ((φ 43 4) + 1)) 43 1 z2) 43 2 v2) := iv_up (lo := (-1 : Int)) (u := 5) i29 (by decide +kernel) (by omega) (by omega)
        have r30 : Fr [49, 50, 51, 44001, 44002, 44003, 44004] φ (hf_up (hf_up (hf_up (hf_up (hf_up φ 49 ((v2).toNat) ((φ 49 ((v2).toNat)) + 1)) 50 ((v2).toNat) ((φ 50 ((v2).toNat)) + 1)) 43 4 ((φ 43 4) + 1)) 43 1 z2) 43 2 v2) := fr_up r29 (by decide)
        exact hQ (hf_up (hf_up (hf_up (hf_up (hf_up φ 49 ((v2).toNat) ((φ 49 ((v2).toNat)) + 1)) 50 ((v2).toNat) ((φ 50 ((v2).toNat)) + 1)) 43 4 ((φ 43 4) + 1)) 43 1 z2) 43 2 v2) i30 r30 e24a
      · skip
        have e24b := e22a.trans (if_neg q24)
        have f31 := iv_at (a := 43) (k := 3) (lo := (-2147483648 : Int)) (u := 2147483647) hI (by decide +kernel)
        have f32 := hr_shl1 (φ 16 ((((φ 43 1) * 8) + z2).toNat))
        have f33 := hr_shl 1 (φ 16 ((((φ 43 1) * 8) + z2).toNat))
        have f34 := hr_or (φ 43 3) (hb_shl 1 (φ 16 ((((φ 43 1) * 8) + z2).toNat)))
        refine ⟨by omega, by omega, ?_⟩
        have f35 := iv_ar (a := 15) (s := 0) (t := 8) (lo := (-2147483648 : Int)) (u := 2147483647) (z := φ 16 ((((φ 43 1) * 8) + z2).toNat)) hI (by decide +kernel) (by omega) (by omega)
        have f36 := hr_xor (φ 15 ((φ 16 ((((φ 43 1) * 8) + z2).toNat)).toNat)) (-1 : Int)
        have f37 := hr_and0 (hb_or (φ 43 3) (hb_shl 1 (φ 16 ((((φ 43 1) * 8) + z2).toNat)))) (hb_xor (φ 15 ((φ 16 ((((φ 43 1) * 8) + z2).toNat)).toNat)) (-1 : Int))
        have f38 := hr_and (hb_or (φ 43 3) (hb_shl 1 (φ 16 ((((φ 43 1) * 8) + z2).toNat)))) (hb_xor (φ 15 ((φ 16 ((((φ 43 1) * 8) + z2).toNat)).toNat)) (-1 : Int))
        have i39 : Inv (hf_up (hf_up (hf_up (hf_up φ 49 ((v2).toNat) ((φ 49 ((v2).toNat)) + 1)) 50 ((v2).toNat) ((φ 50 ((v2).toNat)) + 1)) 43 4 ((φ 43 4) + 1)) 43 3 (hb_and (hb_or (φ 43 3) (hb_shl 1 (φ 16 ((((φ 43 1) * 8) + z2).toNat)))) (hb_xor (φ 15 ((φ 16 ((((φ 43 1) * 8) + z2).toNat)).toNat)) (-1 : Int)))) := iv_up (lo := (-2147483648 : Int)) (u := 2147483647) i26 (by decide +kernel) (by omega) (by omega)
        have r39 : Fr [49, 50, 51, 44001, 44002, 44003, 44004] φ (hf_up (hf_up (hf_up (hf_up φ 49 ((v2).toNat) ((φ 49 ((v2).toNat)) + 1)) 50 ((v2).toNat) ((φ 50 ((v2).toNat)) + 1)) 43 4 ((φ 43 4) + 1)) 43 3 (hb_and (hb_or (φ 43 3) (hb_shl 1 (φ 16 ((((φ 43 1) * 8) + z2).toNat)))) (hb_xor (φ 15 ((φ 16 ((((φ 43 1) * 8) + z2).toNat)).toNat)) (-1 : Int)))) := fr_up r26 (by decide)
        refine ⟨by omega, by omega, ?_⟩
        refine ⟨by omega, by omega, ?_⟩
        have i40 : Inv (hf_up (hf_up (hf_up (hf_up (hf_up φ 49 ((v2).toNat) ((φ 49 ((v2).toNat)) + 1)) 50 ((v2).toNat) ((φ 50 ((v2).toNat)) + 1)) 43 4 ((φ 43 4) + 1)) 43 3 (hb_and (hb_or (φ 43 3) (hb_shl 1 (φ 16 ((((φ 43 1) * 8) + z2).toNat)))) (hb_xor (φ 15 ((φ 16 ((((φ 43 1) * 8) + z2).toNat)).toNat)) (-1 : Int)))) 51 ((φ 16 ((((φ 43 1) * 8) + z2).toNat)).toNat) ((φ 51 ((φ 16 ((((φ 43 1) * 8) + z2).toNat)).toNat)) + 1)) := iv_upIn i39 (by decide) (by decide +kernel)
        have r40 : Fr [49, 50, 51, 44001, 44002, 44003, 44004] φ (hf_up (hf_up (hf_up (hf_up (hf_up φ 49 ((v2).toNat) ((φ 49 ((v2).toNat)) + 1)) 50 ((v2).toNat) ((φ 50 ((v2).toNat)) + 1)) 43 4 ((φ 43 4) + 1)) 43 3 (hb_and (hb_or (φ 43 3) (hb_shl 1 (φ 16 ((((φ 43 1) * 8) + z2).toNat)))) (hb_xor (φ 15 ((φ 16 ((((φ 43 1) * 8) + z2).toNat)).toNat)) (-1 : Int)))) 51 ((φ 16 ((((φ 43 1) * 8) + z2).toNat)).toNat) ((φ 51 ((φ 16 ((((φ 43 1) * 8) + z2).toNat)).toNat)) + 1)) := fr_upa r39 (by decide)
        have i41 : Inv (hf_up (hf_up (hf_up (hf_up (hf_up (hf_up φ 49 ((v2).toNat) ((φ 49 ((v2).toNat)) + 1)) 50 ((v2).toNat) ((φ 50 ((v2).toNat)) + 1)) 43 4 ((φ 43 4) + 1)) 43 3 (hb_and (hb_or (φ 43 3) (hb_shl 1 (φ 16 ((((φ 43 1) * 8) + z2).toNat)))) (hb_xor (φ 15 ((φ 16 ((((φ 43 1) * 8) + z2).toNat)).toNat)) (-1 : Int)))) 51 ((φ 16 ((((φ 43 1) * 8) + z2).toNat)).toNat) ((φ 51 ((φ 16 ((((φ 43 1) * 8) + z2).toNat)).toNat)) + 1)) 43 1 z2) := iv_up (lo := (-1 : Int)) (u := 7) i40 (by decide +kernel) (by omega) (by omega)
        have r41 : Fr [49, 50, 51, 44001, 44002, 44003, 44004] φ (hf_up (hf_up (hf_up (hf_up (hf_up (hf_up φ 49 ((v2).toNat) ((φ 49 ((v2).toNat)) + 1)) 50 ((v2).toNat) ((φ 50 ((v2).toNat)) + 1)) 43 4 ((φ 43 4) + 1)) 43 3 (hb_and (hb_or (φ 43 3) (hb_shl 1 (φ 16 ((((φ 43 1) * 8) + z2).toNat)))) (hb_xor (φ 15 ((φ 16 ((((φ 43 1) * 8) + z2).toNat)).toNat)) (-1 : Int)))) 51 ((φ 16 ((((φ 43 1) * 8) + z2).toNat)).toNat) ((φ 51 ((φ 16 ((((φ 43 1) * 8) + z2).toNat)).toNat)) + 1)) 43 1 z2) := fr_up r40 (by decide)
        have i42 : Inv (hf_up (hf_up (hf_up (hf_up (hf_up (hf_up (hf_up φ 49 ((v2).toNat) ((φ 49 ((v2).toNat)) + 1)) 50 ((v2).toNat) ((φ 50 ((v2).toNat)) + 1)) 43 4 ((φ 43 4) + 1)) 43 3 (hb_and (hb_or (φ 43 3) (hb_shl 1 (φ 16 ((((φ 43 1) * 8) + z2).toNat)))) (hb_xor (φ 15 ((φ 16 ((((φ 43 1) * 8) + z2).toNat)).toNat)) (-1 : Int)))) 51 ((φ 16 ((((φ 43 1) * 8) + z2).toNat)).toNat) ((φ 51 ((φ 16 ((((φ 43 1) * 8) + z2).toNat)).toNat)) + 1)) 43 1 z2) 43 2 v2) := iv_up (lo := (-1 : Int)) (u := 5) i41 (by decide +kernel) (by omega) (by omega)
        have r42 : Fr [49, 50, 51, 44001, 44002, 44003, 44004] φ (hf_up (hf_up (hf_up (hf_up (hf_up (hf_up (hf_up φ 49 ((v2).toNat) ((φ 49 ((v2).toNat)) + 1)) 50 ((v2).toNat) ((φ 50 ((v2).toNat)) + 1)) 43 4 ((φ 43 4) + 1)) 43 3 (hb_and (hb_or (φ 43 3) (hb_shl 1 (φ 16 ((((φ 43 1) * 8) + z2).toNat)))) (hb_xor (φ 15 ((φ 16 ((((φ 43 1) * 8) + z2).toNat)).toNat)) (-1 : Int)))) 51 ((φ 16 ((((φ 43 1) * 8) + z2).toNat)).toNat) ((φ 51 ((φ 16 ((((φ 43 1) * 8) + z2).toNat)).toNat)) + 1)) 43 1 z2) 43 2 v2) := fr_up r41 (by decide)
        exact hQ (hf_up (hf_up (hf_up (hf_up (hf_up (hf_up (hf_up φ 49 ((v2).toNat) ((φ 49 ((v2).toNat)) + 1)) 50 ((v2).toNat) ((φ 50 ((v2).toNat)) + 1)) 43 4 ((φ 43 4) + 1)) 43 3 (hb_and (hb_or (φ 43 3) (hb_shl 1 (φ 16 ((((φ 43 1) * 8) + z2).toNat)))) (hb_xor (φ 15 ((φ 16 ((((φ 43 1) * 8) + z2).toNat)).toNat)) (-1 : Int)))) 51 ((φ 16 ((((φ 43 1) * 8) + z2).toNat)).toNat) ((φ 51 ((φ 16 ((((φ 43 1) * 8) + z2).toNat)).toNat)) + 1)) 43 1 z2) 43 2 v2) i42 r42 e24b
    · skip
      have e22b := e5b.trans (if_neg q22)
      have i43 : Inv (hf_up (hf_up (hf_up (hf_up φ 49 ((v2).toNat) ((φ 49 ((v2).toNat)) + 1)) 50 ((v2).toNat) ((φ 50 ((v2).toNat)) + 1)) 43 4 ((φ 43 4) + 1)) 43 1 z2) := iv_up (lo := (-1 : Int)) (u := 7) i26 (by decide +kernel) (by omega) (by omega)
      have r43 : Fr [49, 50, 51, 44001, 44002, 44003, 44004] φ (hf_up (hf_up (hf_up (hf_up φ 49 ((v2).toNat) ((φ 49 ((v2).toNat)) + 1)) 50 ((v2).toNat) ((φ 50 ((v2).toNat)) + 1)) 43 4 ((φ 43 4) + 1)) 43 1 z2) := fr_up r26 (by decide)
      have i44 : Inv (hf_up (hf_up (hf_up (hf_up (hf_up φ 49 ((v2).toNat) ((φ 49 ((v2).toNat)) + 1)) 50 ((v2).toNat) ((φ 50 ((v2).toNat)) + 1)) 43 4 ((φ 43 4) + 1)) 43 1 z2) 43 2 v2) := iv_up (lo := (-1 : Int)) (u := 5) i43 (by decide +kernel) (by omega) (by omega)
      have r44 : Fr [49, 50, 51, 44001, 44002, 44003, 44004] φ (hf_up (hf_up (hf_up (hf_up (hf_up φ 49 ((v2).toNat) ((φ 49 ((v2).toNat)) + 1)) 50 ((v2).toNat) ((φ 50 ((v2).toNat)) + 1)) 43 4 ((φ 43 4) + 1)) 43 1 z2) 43 2 v2) := fr_up r43 (by decide)
      exact hQ (hf_up (hf_up (hf_up (hf_up (hf_up φ 49 ((v2).toNat) ((φ 49 ((v2).toNat)) + 1)) 50 ((v2).toNat) ((φ 50 ((v2).toNat)) + 1)) 43 4 ((φ 43 4) + 1)) 43 1 z2) 43 2 v2) i44 r44 e22b
theorem sf_91_43_5_v9 {sc : List Int} {d : Nat} {φ : hf_F} {x : Nat} {Q : Option jm_V → hf_F → Nat → Prop} {L : jm_L} {l2 l3 : Int} (g0 : jm_get L 0 = some (2, 43)) (g1 : jm_get L 1 = some (2, 5)) (g2 : jm_get L 2 = some (0, l2)) (g3 : jm_get L 3 = some (0, l3))
    (H : hi l3 ∧ hi l2 ∧ (l2 ≤ l3 → Q none (hf_up φ 43 0 ((φ 43 0) + 1)) x) ∧ (¬ l2 ≤ l3 → 0 ≤ l3 ∧ l3 < 8 ∧ (hw sc (d + 1) 92 0 [(0, (2, 5)), (1, (0, l3)), (2, (0, φ 44 ((l3).toNat)))] [] φ x (fun r ψ4 y4 => y4 = x ∧ φ = ψ4 ∧ (∃ z4 : Int, r = some (0, z4) ∧ (0 ≤ l3 ∧ l3 < 8 ∧ (0 ≤ l3 ∧ l3 < 8 ∧ ((¬ (jm_n z4) = 0 → hw sc (d + 2) 91 9 (jm_st1 (jm_st1 (jm_st1 L 4 (0, z4)) 5 (0, φ 45 ((l3).toNat))) 3 (0, l3 + 1)) [] (hf_up φ 44 ((l3).toNat) z4) x Q) ∧ (¬ (¬ (jm_n z4) = 0) → hi (φ 45 ((l3).toNat)) ∧ hi (-1 : Int) ∧ ((φ 45 ((l3).toNat)) = (-1 : Int) → hw sc (d + 2) 91 9 (jm_st1 (jm_st1 (jm_st1 L 4 (0, z4)) 5 (0, φ 45 ((l3).toNat))) 3 (0, l3 + 1)) [] (hf_up φ 44 ((l3).toNat) z4) x Q) ∧ (¬ (φ 45 ((l3).toNat)) = (-1 : Int) → 0 ≤ (φ 45 ((l3).toNat)) ∧ (φ 45 ((l3).toNat)) < 6 ∧ (hi (φ 47 ((φ 45 ((l3).toNat)).toNat)) ∧ ((φ 47 ((φ 45 ((l3).toNat)).toNat)) ≤ 0 → hw sc (d + 2) 91 9 (jm_st1 (jm_st1 (jm_st1 L 4 (0, z4)) 5 (0, φ 45 ((l3).toNat))) 3 (0, l3 + 1)) [] (hf_up φ 44 ((l3).toNat) z4) x Q) ∧ (¬ (φ 47 ((φ 45 ((l3).toNat)).toNat)) ≤ 0 → hw sc (d + 1) 93 0 [(0, (2, 43)), (1, (2, 5)), (2, (0, φ 45 ((l3).toNat)))] [] (hf_up φ 44 ((l3).toNat) z4) x (fun r ψ11 y11 => y11 = x ∧ (r = none ∧ (hw sc (d + 2) 91 9 (jm_st1 (jm_st1 (jm_st1 L 4 (0, z4)) 5 (0, φ 45 ((l3).toNat))) 3 (0, l3 + 1)) [] ψ11 x Q))))))))))))))) :
    hw sc (d + 2) 91 9 L [] φ x Q := by
  refine hw_ld (b := 3) (e := 0) (by decide +kernel) g3 ?_
  refine hw_ld (b := 2) (e := 0) (by decide +kernel) g2 ?_
  obtain ⟨hz1, hy1, ht1, hf1⟩ := H
  refine hw_if2 (a0 := 0) (b := 3) (e := 77) (by decide +kernel) hz1 hy1 (fun q => ?_) (fun q => ?_)
  · have H := ht1 q
    refine hw_ald (b := 0) (e := 0) (by decide +kernel) g0 (by decide) ?_
    refine hw_dup (a0 := 0) (e := 0) (by decide +kernel) (by decide) ?_
    refine hr_gi (w := φ 43 0) (b := 4) (e := 0) 43 rfl (by decide +kernel) rfl ?_
    refine hw_k (c := 1) (b := 0) (e := 1) (by decide +kernel) ?_
    refine hw_bin (w := (φ 43 0) + 1) (a0 := 0) (b := 0) (e := 0) (by decide +kernel) rfl ?_
    refine hr_pi (b := 4) (e := 0) 43 rfl (by decide +kernel) ?_
    exact hw_vret (a0 := 0) (e := 0) (by decide +kernel) H
  · have H := hf1 q
    refine hw_ald (b := 1) (e := 0) (by decide +kernel) g1 (by decide) ?_
    refine hw_ld (b := 3) (e := 0) (by decide +kernel) g3 ?_
    refine hw_ald (b := 0) (e := 0) (by decide +kernel) g0 (by decide) ?_
    refine hr_gr (w := 44) (b := 4) (e := 6) 43 rfl (by decide +kernel) ?_
    refine hw_ld (b := 3) (e := 0) (by decide +kernel) g3 ?_
    obtain ⟨hl3, hu3, H⟩ := H
    refine hr_al (b := 0) (a0 := 0) (e := 0) (n := 8) (w := φ 44 ((l3).toNat)) 44 rfl (by decide +kernel) (by decide) hl3 hu3 rfl ?_
    refine hr_call (a0 := 13) (b := 92) (e := 3) (nl := 4) (As := [(0, l3), (0, φ 44 ((l3).toNat))]) (R := []) 5 rfl (by decide +kernel) rfl rfl (Nat.le_of_ble_eq_true rfl) (Nat.le_of_ble_eq_true rfl) ?_
    refine hw_mono H ?_
    rintro r ψ4 y4 ⟨hyx, hψx, z4, hr, H⟩
    subst hyx
    subst hψx
    subst hr
    refine ⟨hne0, ?_⟩
    show hw sc (d + 2) 91 25 L [(0, z4)] φ y4 Q
    refine hw_st (L' := (jm_st1 L 4 (0, z4))) (b := 4) (e := 1) (by decide +kernel) rfl ?_
    refine hw_ald (b := 0) (e := 0) (by decide +kernel) (get_st1 g0 (by decide) (fun q => absurd q.1 (by decide))) (by decide) ?_
    refine hr_gr (w := 44) (b := 4) (e := 6) 43 rfl (by decide +kernel) ?_
    refine hw_ld (b := 3) (e := 0) (by decide +kernel) (get_st1 g3 (by decide) (fun q => tg0 q.2)) ?_
    refine hw_ld (b := 4) (e := 1) (by decide +kernel) get_st1e ?_
    obtain ⟨hl5, hu5, H⟩ := H
    refine hr_as (a0 := 0) (e := 4) (n := 8) 44 rfl (by decide +kernel) hl5 hu5 ?_
    refine hw_ald (b := 0) (e := 0) (by decide +kernel) (get_st1 g0 (by decide) (fun q => absurd q.1 (by decide))) (by decide) ?_
    refine hr_gr (w := 45) (b := 4) (e := 7) 43 rfl (by decide +kernel) ?_
    refine hw_ld (b := 3) (e := 0) (by decide +kernel) (get_st1 g3 (by decide) (fun q => tg0 q.2)) ?_
    obtain ⟨hl6, hu6, H⟩ := H
    refine hr_al (b := 0) (a0 := 0) (e := 0) (n := 8) (w := φ 45 ((l3).toNat)) 45 rfl (by decide +kernel) (by decide) hl6 hu6 (hf_up_ne (fun q => absurd q.1 (by decide))) ?_
    refine hw_st (L' := (jm_st1 (jm_st1 L 4 (0, z4)) 5 (0, φ 45 ((l3).toNat)))) (b := 5) (e := 1) (by decide +kernel) rfl ?_
    refine hw_ld (b := 4) (e := 1) (by decide +kernel) (get_st1 get_st1e (by decide) (fun q => tg0 q.2)) ?_
    obtain ⟨ht7, hf7⟩ := H
    refine hw_ifn (a0 := 0) (b := 1) (e := 71) (by decide +kernel) (fun q => ?_) (fun q => ?_)
    · have H := ht7 q
      refine hw_inc (L' := (jm_st1 (jm_st1 (jm_st1 L 4 (0, z4)) 5 (0, φ 45 ((l3).toNat))) 3 (0, l3 + 1))) (c := 1) (b := 3) (e := 0) (by decide +kernel) (get_st1 (get_st1 g3 (by decide) (fun q => tg0 q.2)) (by decide) (fun q => absurd q.1 (by decide))) rfl ?_
      refine hw_goto (a0 := 0) (b := 0) (e := 9) (by decide +kernel) ?_
      exact H
    · have H := hf7 q
      refine hw_ld (b := 5) (e := 1) (by decide +kernel) get_st1e ?_
      refine hw_k (c := (-1 : Int)) (b := 0) (e := 1) (by decide +kernel) ?_
      obtain ⟨hz8, hy8, ht8, hf8⟩ := H
      refine hw_if2 (a0 := 0) (b := 0) (e := 71) (by decide +kernel) hz8 hy8 (fun q => ?_) (fun q => ?_)
      · have H := ht8 q
        refine hw_inc (L' := (jm_st1 (jm_st1 (jm_st1 L 4 (0, z4)) 5 (0, φ 45 ((l3).toNat))) 3 (0, l3 + 1))) (c := 1) (b := 3) (e := 0) (by decide +kernel) (get_st1 (get_st1 g3 (by decide) (fun q => tg0 q.2)) (by decide) (fun q => absurd q.1 (by decide))) rfl ?_
        refine hw_goto (a0 := 0) (b := 0) (e := 9) (by decide +kernel) ?_
        exact H
      · have H := hf8 q
        refine hw_ald (b := 0) (e := 0) (by decide +kernel) (get_st1 (get_st1 g0 (by decide) (fun q => absurd q.1 (by decide))) (by decide) (fun q => absurd q.1 (by decide))) (by decide) ?_
        refine hr_gr (w := 47) (b := 4) (e := 9) 43 rfl (by decide +kernel) ?_
        refine hw_ld (b := 5) (e := 1) (by decide +kernel) get_st1e ?_
        obtain ⟨hl9, hu9, H⟩ := H
        refine hr_al (b := 0) (a0 := 0) (e := 0) (n := 6) (w := φ 47 ((φ 45 ((l3).toNat)).toNat)) 47 rfl (by decide +kernel) (by decide) hl9 hu9 (hf_up_ne (fun q => absurd q.1 (by decide))) ?_
        obtain ⟨hz10, ht10, hf10⟩ := H
        refine hw_if (a0 := 0) (b := 5) (e := 71) (by decide +kernel) hz10 (fun q => ?_) (fun q => ?_)
        · have H := ht10 q
          refine hw_inc (L' := (jm_st1 (jm_st1 (jm_st1 L 4 (0, z4)) 5 (0, φ 45 ((l3).toNat))) 3 (0, l3 + 1))) (c := 1) (b := 3) (e := 0) (by decide +kernel) (get_st1 (get_st1 g3 (by decide) (fun q => tg0 q.2)) (by decide) (fun q => absurd q.1 (by decide))) rfl ?_
          refine hw_goto (a0 := 0) (b := 0) (e := 9) (by decide +kernel) ?_
          exact H
        · have H := hf10 q
          refine hw_ald (b := 0) (e := 0) (by decide +kernel) (get_st1 (get_st1 g0 (by decide) (fun q => absurd q.1 (by decide))) (by decide) (fun q => absurd q.1 (by decide))) (by decide) ?_
          refine hw_ald (b := 1) (e := 0) (by decide +kernel) (get_st1 (get_st1 g1 (by decide) (fun q => absurd q.1 (by decide))) (by decide) (fun q => absurd q.1 (by decide))) (by decide) ?_
          refine hw_ld (b := 5) (e := 1) (by decide +kernel) get_st1e ?_
          refine hr_call (a0 := 14) (b := 93) (e := 3) (nl := 6) (As := [(2, 5), (0, φ 45 ((l3).toNat))]) (R := []) 43 rfl (by decide +kernel) rfl rfl (Nat.le_of_ble_eq_true rfl) (Nat.le_of_ble_eq_true rfl) ?_
          refine hw_mono H ?_
          rintro r ψ11 y11 ⟨hyx, hr, H⟩
          subst hyx
          subst hr
          refine ⟨hnen, ?_⟩
          show hw sc (d + 2) 91 71 (jm_st1 (jm_st1 L 4 (0, z4)) 5 (0, φ 45 ((l3).toNat))) [] ψ11 y11 Q
          refine hw_inc (L' := (jm_st1 (jm_st1 (jm_st1 L 4 (0, z4)) 5 (0, φ 45 ((l3).toNat))) 3 (0, l3 + 1))) (c := 1) (b := 3) (e := 0) (by decide +kernel) (get_st1 (get_st1 g3 (by decide) (fun q => tg0 q.2)) (by decide) (fun q => absurd q.1 (by decide))) rfl ?_
          refine hw_goto (a0 := 0) (b := 0) (e := 9) (by decide +kernel) ?_
          exact H
theorem sf_91_43_5_l9 {sc : List Int} {d x : Nat} {Q : Option jm_V → hf_F → Nat → Prop} : ∀ (n : Nat) (φ : hf_F) (L : jm_L) (l2 l3 : Int), jm_get L 0 = some (2, 43) → jm_get L 1 = some (2, 5) → jm_get L 2 = some (0, l2) → jm_get L 3 = some (0, l3) → Inv φ → 8 - l3 < (n : Int) → 0 ≤ l2 → l2 ≤ 8 → 0 ≤ l3 → l3 ≤ 8 → (∀ ψ : hf_F, Inv ψ → Fr [44, 49, 50, 51, 44000, 44001, 44002, 44003, 44004] φ ψ → F_State_turn_43_5_l9 n φ l2 l3 = ψ → Q none ψ x) → hw sc (d + 2) 91 9 L [] φ x Q := by
  intro n
  induction n with
  | zero =>
    intro φ L l2 l3 g0 g1 g2 g3 hI hM b2a b2b b3a b3b hQ
    exfalso
    omega
  | succ n ih =>
    intro φ L l2 l3 g0 g1 g2 g3 hI hM b2a b2b b3a b3b hQ
    refine sf_91_43_5_v9 g0 g1 g2 g3 ?_
    have e0 := F_State_turn_43_5_l9_s (φ := φ) (l2 := l2) (l3 := l3) n
    refine ⟨by unfold hi; omega, by unfold hi; omega, fun q1 => ?_, fun q1 => ?_⟩
    · skip
      have e1a := e0.trans (if_pos q1)
      have i1 : Inv (hf_up φ 43 0 ((φ 43 0) + 1)) := iv_upn hI (by decide) (by decide) (by decide +kernel)
      have r1 : Fr [44, 49, 50, 51, 44000, 44001, 44002, 44003, 44004] φ (hf_up φ 43 0 ((φ 43 0) + 1)) := fr_up (fr_rf) (by decide)
      exact hQ (hf_up φ 43 0 ((φ 43 0) + 1)) i1 r1 e1a
    · skip
      have e1b := e0.trans (if_neg q1)
      refine ⟨by omega, by omega, ?_⟩
      refine sf_92_5 (φ := φ) hI (by omega) (by omega) (fun z4 hp4 hE4 => ⟨rfl, rfl, z4, rfl, ?_⟩)
      have e4 := e1b.trans (bnp_e hE4)
      refine ⟨by omega, by omega, ?_⟩
      have i2 : Inv (hf_up φ 44 ((l3).toNat) z4) := iv_upIn hI (by decide) (by decide +kernel)
      have r2 : Fr [44, 49, 50, 51, 44000, 44001, 44002, 44003, 44004] φ (hf_up φ 44 ((l3).toNat) z4) := fr_upa (fr_rf) (by decide)
      refine ⟨by omega, by omega, ?_⟩
      have f3 := iv_ar (a := 45) (s := 0) (t := 8) (lo := (-1 : Int)) (u := 5) (z := l3) hI (by decide +kernel) (by omega) (by omega)
      have f4 := hr_n z4
      refine ⟨fun q7 => ?_, fun q7 => ?_⟩
      · skip
        have e7a := e4.trans (if_pos q7)
        exact ih (hf_up φ 44 ((l3).toNat) z4) (jm_st1 (jm_st1 (jm_st1 L 4 (0, z4)) 5 (0, φ 45 ((l3).toNat))) 3 (0, l3 + 1)) l2 (l3 + 1) (get_st1 (get_st1 (get_st1 g0 (by decide) (fun q => absurd q.1 (by decide))) (by decide) (fun q => absurd q.1 (by decide))) (by decide) (fun q => absurd q.1 (by decide))) (get_st1 (get_st1 (get_st1 g1 (by decide) (fun q => absurd q.1 (by decide))) (by decide) (fun q => absurd q.1 (by decide))) (by decide) (fun q => absurd q.1 (by decide))) (get_st1 (get_st1 (get_st1 g2 (by decide) (fun q => absurd q.1 (by decide))) (by decide) (fun q => absurd q.1 (by decide))) (by decide) (fun q => tg0 q.2)) get_st1e i2 (by omega) (by omega) (by omega) (by omega) (by omega) (fun χ hIχ hFχ hEχ => hQ χ hIχ (fr_tr r2 hFχ (by decide)) (e7a.trans hEχ))
      · skip
        have e7b := e4.trans (if_neg q7)
        refine ⟨by unfold hi; omega, by unfold hi; omega, fun q8 => ?_, fun q8 => ?_⟩
        · skip
          have e8a := e7b.trans (if_pos q8)
          exact ih (hf_up φ 44 ((l3).toNat) z4) (jm_st1 (jm_st1 (jm_st1 L 4 (0, z4)) 5 (0, φ 45 ((l3).toNat))) 3 (0, l3 + 1)) l2 (l3 + 1) (get_st1 (get_st1 (get_st1 g0 (by decide) (fun q => absurd q.1 (by decide))) (by decide) (fun q => absurd q.1 (by decide))) (by decide) (fun q => absurd q.1 (by decide))) (get_st1 (get_st1 (get_st1 g1 (by decide) (fun q => absurd q.1 (by decide))) (by decide) (fun q => absurd q.1 (by decide))) (by decide) (fun q => absurd q.1 (by decide))) (get_st1 (get_st1 (get_st1 g2 (by decide) (fun q => absurd q.1 (by decide))) (by decide) (fun q => absurd q.1 (by decide))) (by decide) (fun q => tg0 q.2)) get_st1e i2 (by omega) (by omega) (by omega) (by omega) (by omega) (fun χ hIχ hFχ hEχ => hQ χ hIχ (fr_tr r2 hFχ (by decide)) (e8a.trans hEχ))
        · skip
          have e8b := e7b.trans (if_neg q8)
          refine ⟨by omega, by omega, ?_⟩
          have f5 := iv_ar (a := 47) (s := 0) (t := 6) (lo := 0) (u := 6) (z := φ 45 ((l3).toNat)) hI (by decide +kernel) (by omega) (by omega)
          refine ⟨by unfold hi; omega, fun q10 => ?_, fun q10 => ?_⟩
          · skip
            have e10a := e8b.trans (if_pos q10)
            exact ih (hf_up φ 44 ((l3).toNat) z4) (jm_st1 (jm_st1 (jm_st1 L 4 (0, z4)) 5 (0, φ 45 ((l3).toNat))) 3 (0, l3 + 1)) l2 (l3 + 1) (get_st1 (get_st1 (get_st1 g0 (by decide) (fun q => absurd q.1 (by decide))) (by decide) (fun q => absurd q.1 (by decide))) (by decide) (fun q => absurd q.1 (by decide))) (get_st1 (get_st1 (get_st1 g1 (by decide) (fun q => absurd q.1 (by decide))) (by decide) (fun q => absurd q.1 (by decide))) (by decide) (fun q => absurd q.1 (by decide))) (get_st1 (get_st1 (get_st1 g2 (by decide) (fun q => absurd q.1 (by decide))) (by decide) (fun q => absurd q.1 (by decide))) (by decide) (fun q => tg0 q.2)) get_st1e i2 (by omega) (by omega) (by omega) (by omega) (by omega) (fun χ hIχ hFχ hEχ => hQ χ hIχ (fr_tr r2 hFχ (by decide)) (e10a.trans hEχ))
          · skip
            have e10b := e8b.trans (if_neg q10)
            refine sf_93_43_5 (φ := (hf_up φ 44 ((l3).toNat) z4)) i2 (by omega) (by omega) (by rw [show (hf_up φ 44 ((l3).toNat) z4) 47 ((φ 45 ((l3).toNat)).toNat) = φ 47 ((φ 45 ((l3).toNat)).toNat) from (hf_up_ne (fun q => absurd q.1 (by decide)))]; constructor <;> omega) (fun ψ11 hI11 hF11 hE11 => ⟨rfl, rfl, ?_⟩)
            have hG11 : Fr [44, 49, 50, 51, 44000, 44001, 44002, 44003, 44004] φ ψ11 := fr_tr r2 hF11 (by decide)
            have e11 := e10b.trans (bnv_e hE11)
            exact ih ψ11 (jm_st1 (jm_st1 (jm_st1 L 4 (0, z4)) 5 (0, φ 45 ((l3).toNat))) 3 (0, l3 + 1)) l2 (l3 + 1) (get_st1 (get_st1 (get_st1 g0 (by decide) (fun q => absurd q.1 (by decide))) (by decide) (fun q => absurd q.1 (by decide))) (by decide) (fun q => absurd q.1 (by decide))) (get_st1 (get_st1 (get_st1 g1 (by decide) (fun q => absurd q.1 (by decide))) (by decide) (fun q => absurd q.1 (by decide))) (by decide) (fun q => absurd q.1 (by decide))) (get_st1 (get_st1 (get_st1 g2 (by decide) (fun q => absurd q.1 (by decide))) (by decide) (fun q => absurd q.1 (by decide))) (by decide) (fun q => tg0 q.2)) get_st1e hI11 (by omega) (by omega) (by omega) (by omega) (by omega) (fun χ hIχ hFχ hEχ => hQ χ hIχ (fr_tr hG11 hFχ (by decide)) (e11.trans hEχ))
theorem sf_91_43_5_v {sc : List Int} {d : Nat} {φ : hf_F} {x : Nat} {Q : Option jm_V → hf_F → Nat → Prop} 
    (H : hw sc (d + 2) 91 9 (jm_st1 (jm_st1 [(0, (2, 43)), (1, (2, 5))] 2 (0, φ 6 1)) 3 (0, 0)) [] φ x Q) :
    hw sc (d + 2) 91 0 [(0, (2, 43)), (1, (2, 5))] [] φ x Q := by
  refine hw_ald (b := 1) (e := 0) (by decide +kernel) rfl (by decide) ?_
  refine hr_gr (w := 6) (b := 3) (e := 0) 5 rfl (by decide +kernel) ?_
  refine hw_k (c := 1) (b := 0) (e := 1) (by decide +kernel) ?_
  refine hr_al (b := 0) (a0 := 0) (e := 0) (n := 5) (w := φ 6 1) 6 rfl (by decide +kernel) (by decide) (by decide) (by decide) rfl ?_
  refine hw_st (L' := (jm_st1 [(0, (2, 43)), (1, (2, 5))] 2 (0, φ 6 1))) (b := 2) (e := 0) (by decide +kernel) rfl ?_
  refine hw_k (c := 0) (b := 0) (e := 1) (by decide +kernel) ?_
  refine hw_st (L' := (jm_st1 (jm_st1 [(0, (2, 43)), (1, (2, 5))] 2 (0, φ 6 1)) 3 (0, 0))) (b := 3) (e := 0) (by decide +kernel) rfl ?_
  exact H
theorem sf_91_43_5 {sc : List Int} {d : Nat} {φ : hf_F} {x : Nat} {Q : Option jm_V → hf_F → Nat → Prop}  (hI : Inv φ)  (hQ : ∀ ψ : hf_F, Inv ψ → Fr [44, 49, 50, 51, 44000, 44001, 44002, 44003, 44004] φ ψ → F_State_turn_43_5 φ = ψ → Q none ψ x) : hw sc (d + 2) 91 0 [(0, (2, 43)), (1, (2, 5))] [] φ x Q := by
  apply sf_91_43_5_v
  have e0 : F_State_turn_43_5 φ = _ := rfl
  have f1 := iv_at (a := 6) (k := 1) (lo := 0) (u := 8) hI (by decide +kernel)
  exact sf_91_43_5_l9 ((8 - 0 : Int).toNat + 1) φ (jm_st1 (jm_st1 [(0, (2, 43)), (1, (2, 5))] 2 (0, φ 6 1)) 3 (0, 0)) (φ 6 1) 0 (get_st1 (get_st1 rfl (by decide) (fun q => absurd q.1 (by decide))) (by decide) (fun q => absurd q.1 (by decide))) (get_st1 (get_st1 rfl (by decide) (fun q => tg2 q.2)) (by decide) (fun q => absurd q.1 (by decide))) (get_st1 get_st1e (by decide) (fun q => tg0 q.2)) get_st1e hI (by omega) (by omega) (by omega) (by omega) (by omega) (fun χ hIχ hFχ hEχ => hQ χ hIχ (fr_tr (fr_rf) hFχ (by decide)) (e0.trans hEχ))
theorem sf_74_43_v {sc : List Int} {d : Nat} {φ : hf_F} {x : Nat} {Q : Option jm_V → hf_F → Nat → Prop} {v1 : Int}
    (H : hi (hb_and (hb_shr (φ 43 3) v1) 1) ∧ ((hb_and (hb_shr (φ 43 3) v1) 1) = 0 → Q (some (0, 0)) φ x) ∧ (¬ (hb_and (hb_shr (φ 43 3) v1) 1) = 0 → Q (some (0, 1)) φ x)) :
    hw sc d 74 0 [(0, (2, 43)), (1, (0, v1))] [] φ x Q := by
  refine hw_ald (b := 0) (e := 0) (by decide +kernel) rfl (by decide) ?_
  refine hr_gi (w := φ 43 3) (b := 4) (e := 3) 43 rfl (by decide +kernel) rfl ?_
  refine hw_ld (b := 1) (e := 0) (by decide +kernel) rfl ?_
  refine hw_bin (w := hb_shr (φ 43 3) v1) (a0 := 0) (b := 7) (e := 0) (by decide +kernel) rfl ?_
  refine hw_k (c := 1) (b := 0) (e := 1) (by decide +kernel) ?_
  refine hw_bin (w := hb_and (hb_shr (φ 43 3) v1) 1) (a0 := 0) (b := 3) (e := 0) (by decide +kernel) rfl ?_
  obtain ⟨hz1, ht1, hf1⟩ := H
  refine hw_if (a0 := 0) (b := 0) (e := 15) (by decide +kernel) hz1 (fun q => ?_) (fun q => ?_)
  · have H := ht1 q
    refine hw_k (c := 0) (b := 0) (e := 1) (by decide +kernel) ?_
    exact hw_ret (a0 := 0) (e := 1) (by decide +kernel) (Or.inr ⟨rfl, by decide⟩) H
  · have H := hf1 q
    refine hw_k (c := 1) (b := 0) (e := 1) (by decide +kernel) ?_
    refine hw_goto (a0 := 0) (b := 0) (e := 16) (by decide +kernel) ?_
    exact hw_ret (a0 := 0) (e := 1) (by decide +kernel) (Or.inr ⟨rfl, by decide⟩) H
theorem sf_74_43 {sc : List Int} {d : Nat} {φ : hf_F} {x : Nat} {Q : Option jm_V → hf_F → Nat → Prop} {v1 : Int} (hI : Inv φ) (h1a : 0 ≤ v1) (h1b : v1 ≤ 7) (hQ : ∀ (r : Int), 0 ≤ r ∧ r ≤ 1 → F_State_isHolding_43 φ v1 = r → Q (some (0, r)) φ x) : hw sc d 74 0 [(0, (2, 43)), (1, (0, v1))] [] φ x Q := by
  apply sf_74_43_v
  have e0 : F_State_isHolding_43 φ v1 = _ := rfl
  have f1 := iv_at (a := 43) (k := 3) (lo := (-2147483648 : Int)) (u := 2147483647) hI (by decide +kernel)
  have f2 := hr_shr0 (φ 43 3) v1
  have f3 := hr_shr (φ 43 3) v1
  have f4 := hr_and0 (hb_shr (φ 43 3) v1) 1
  have f5 := hr_and1 (hb_shr (φ 43 3) v1)
  have f6 := hr_and (hb_shr (φ 43 3) v1) 1
  refine ⟨by unfold hi; omega, fun q1 => ?_, fun q1 => ?_⟩
  · skip
    have e1a := e0.trans (if_pos q1)
    exact hQ 0 ⟨by omega, by omega⟩ e1a
  · skip
    have e1b := e0.trans (if_neg q1)
    exact hQ 1 ⟨by omega, by omega⟩ e1b
theorem sf_102_187_v2 {sc : List Int} {d : Nat} {φ : hf_F} {x : Nat} {Q : Option jm_V → hf_F → Nat → Prop} {L : jm_L} {l1 l2 l3 : Int} (g0 : jm_get L 0 = some (2, 187)) (g1 : jm_get L 1 = some (0, l1)) (g2 : jm_get L 2 = some (0, l2)) (g3 : jm_get L 3 = some (0, l3))
    (H : hi l3 ∧ hi l2 ∧ (l2 < l3 → Q (some (0, (-1 : Int))) φ x) ∧ (¬ l2 < l3 → hw sc (d + 2) 91 0 [(0, (2, 43)), (1, (2, 5))] [] φ x (fun r ψ3 y3 => y3 = x ∧ (r = none ∧ (hw sc (d + 2) 74 0 [(0, (2, 43)), (1, (0, l1))] [] ψ3 x (fun r ψ4 y4 => y4 = x ∧ ψ3 = ψ4 ∧ (∃ z4 : Int, r = some (0, z4) ∧ (hi z4 ∧ (z4 = 0 → hw sc (d + 3) 102 2 (jm_st1 L 3 (0, l3 + 1)) [] ψ3 x Q) ∧ (¬ z4 = 0 → Q (some (0, l3)) ψ3 x))))))))) :
    hw sc (d + 3) 102 2 L [] φ x Q := by
  refine hw_ld (b := 3) (e := 0) (by decide +kernel) g3 ?_
  refine hw_ld (b := 2) (e := 0) (by decide +kernel) g2 ?_
  obtain ⟨hz1, hy1, ht1, hf1⟩ := H
  refine hw_if2 (a0 := 0) (b := 4) (e := 37) (by decide +kernel) hz1 hy1 (fun q => ?_) (fun q => ?_)
  · have H := ht1 q
    refine hw_k (c := (-1 : Int)) (b := 0) (e := 1) (by decide +kernel) ?_
    exact hw_ret (a0 := 0) (e := 0) (by decide +kernel) (Or.inl rfl) H
  · have H := hf1 q
    refine hw_ald (b := 0) (e := 0) (by decide +kernel) g0 (by decide) ?_
    refine hr_gr (w := 43) (b := 9) (e := 2) 187 rfl (by decide +kernel) ?_
    refine hw_ald (b := 0) (e := 0) (by decide +kernel) g0 (by decide) ?_
    refine hr_gr (w := 5) (b := 9) (e := 0) 187 rfl (by decide +kernel) ?_
    refine hr_call (a0 := 14) (b := 91) (e := 2) (nl := 6) (As := [(2, 5)]) (R := []) 43 rfl (by decide +kernel) rfl rfl (Nat.le_of_ble_eq_true rfl) (Nat.le_of_ble_eq_true rfl) ?_
    refine hw_mono H ?_
    rintro r ψ3 y3 ⟨hyx, hr, H⟩
    subst hyx
    subst hr
    refine ⟨hnen, ?_⟩
    show hw sc (d + 3) 102 18 L [] ψ3 y3 Q
    refine hw_ald (b := 0) (e := 0) (by decide +kernel) g0 (by decide) ?_
    refine hr_gr (w := 43) (b := 9) (e := 2) 187 rfl (by decide +kernel) ?_
    refine hw_ld (b := 1) (e := 0) (by decide +kernel) g1 ?_
    refine hr_call (a0 := 14) (b := 74) (e := 2) (nl := 2) (As := [(0, l1)]) (R := []) 43 rfl (by decide +kernel) rfl rfl (Nat.le_of_ble_eq_true rfl) (Nat.le_of_ble_eq_true rfl) ?_
    refine hw_mono H ?_
    rintro r ψ4 y4 ⟨hyx, hψx, z4, hr, H⟩
    subst hyx
    subst hψx
    subst hr
    refine ⟨hne0, ?_⟩
    show hw sc (d + 3) 102 26 L [(0, z4)] ψ3 y4 Q
    obtain ⟨hz5, ht5, hf5⟩ := H
    refine hw_if (a0 := 0) (b := 0) (e := 31) (by decide +kernel) hz5 (fun q => ?_) (fun q => ?_)
    · have H := ht5 q
      refine hw_inc (L' := (jm_st1 L 3 (0, l3 + 1))) (c := 1) (b := 3) (e := 0) (by decide +kernel) g3 rfl ?_
      refine hw_goto (a0 := 0) (b := 0) (e := 2) (by decide +kernel) ?_
      exact H
    · have H := hf5 q
      refine hw_ld (b := 3) (e := 0) (by decide +kernel) g3 ?_
      exact hw_ret (a0 := 0) (e := 0) (by decide +kernel) (Or.inl rfl) H
theorem sf_102_187_l2 {sc : List Int} {d x : Nat} {Q : Option jm_V → hf_F → Nat → Prop} : ∀ (n : Nat) (φ : hf_F) (L : jm_L) (l1 l2 l3 : Int), jm_get L 0 = some (2, 187) → jm_get L 1 = some (0, l1) → jm_get L 2 = some (0, l2) → jm_get L 3 = some (0, l3) → Inv φ → 301 - l3 < (n : Int) → 0 ≤ l1 → l1 ≤ 7 → 0 ≤ l2 → l2 ≤ 300 → 1 ≤ l3 → l3 ≤ 301 → (∀ (r : Int) (ψ : hf_F), Inv ψ → Fr [44, 49, 50, 51, 44000, 44001, 44002, 44003, 44004] φ ψ → (-1 : Int) ≤ r ∧ r ≤ 300 → F_Outlook_ticksTillTrialHolds_187_l2 n φ l1 l2 l3 = (r, ψ) → Q (some (0, r)) ψ x) → hw sc (d + 3) 102 2 L [] φ x Q := by
  intro n
  induction n with
  | zero =>
    intro φ L l1 l2 l3 g0 g1 g2 g3 hI hM b1a b1b b2a b2b b3a b3b hQ
    exfalso
    omega
  | succ n ih =>
    intro φ L l1 l2 l3 g0 g1 g2 g3 hI hM b1a b1b b2a b2b b3a b3b hQ
    refine sf_102_187_v2 g0 g1 g2 g3 ?_
    have e0 := F_Outlook_ticksTillTrialHolds_187_l2_s (φ := φ) (l1 := l1) (l2 := l2) (l3 := l3) n
    refine ⟨by unfold hi; omega, by unfold hi; omega, fun q1 => ?_, fun q1 => ?_⟩
    · skip
      have e1a := e0.trans (if_pos q1)
      exact hQ (-1 : Int) φ hI (fr_rf) ⟨by omega, by omega⟩ e1a
    · skip
      have e1b := e0.trans (if_neg q1)
      refine sf_91_43_5 (φ := φ) hI  (fun ψ3 hI3 hF3 hE3 => ⟨rfl, rfl, ?_⟩)
      have hG3 : Fr [44, 49, 50, 51, 44000, 44001, 44002, 44003, 44004] φ ψ3 := fr_tr (fr_rf) hF3 (by decide)
      have e3 := e1b.trans (bnv_e hE3)
      refine sf_74_43 (φ := ψ3) hI3 (by omega) (by omega) (fun z4 hp4 hE4 => ⟨rfl, rfl, z4, rfl, ?_⟩)
      have e4 := e3.trans (bnp_e hE4)
      refine ⟨by unfold hi; omega, fun q5 => ?_, fun q5 => ?_⟩
      · skip
        have e5a := e4.trans (if_pos q5)
        exact ih ψ3 (jm_st1 L 3 (0, l3 + 1)) l1 l2 (l3 + 1) (get_st1 g0 (by decide) (fun q => absurd q.1 (by decide))) (get_st1 g1 (by decide) (fun q => absurd q.1 (by decide))) (get_st1 g2 (by decide) (fun q => tg0 q.2)) get_st1e hI3 (by omega) (by omega) (by omega) (by omega) (by omega) (by omega) (by omega) (fun rr χ hIχ hFχ hpχ hEχ => hQ rr χ hIχ (fr_tr hG3 hFχ (by decide)) hpχ (e5a.trans hEχ))
      · skip
        have e5b := e4.trans (if_neg q5)
        exact hQ l3 ψ3 hI3 hG3 ⟨by omega, by omega⟩ e5b
theorem sf_102_187_v {sc : List Int} {d : Nat} {φ : hf_F} {x : Nat} {Q : Option jm_V → hf_F → Nat → Prop} {v1 v2 : Int}
    (H : hw sc (d + 3) 102 2 (jm_st1 [(0, (2, 187)), (1, (0, v1)), (2, (0, v2))] 3 (0, 1)) [] φ x Q) :
    hw sc (d + 3) 102 0 [(0, (2, 187)), (1, (0, v1)), (2, (0, v2))] [] φ x Q := by
  refine hw_k (c := 1) (b := 0) (e := 1) (by decide +kernel) ?_
  refine hw_st (L' := (jm_st1 [(0, (2, 187)), (1, (0, v1)), (2, (0, v2))] 3 (0, 1))) (b := 3) (e := 0) (by decide +kernel) rfl ?_
  exact H
theorem sf_102_187 {sc : List Int} {d : Nat} {φ : hf_F} {x : Nat} {Q : Option jm_V → hf_F → Nat → Prop} {v1 v2 : Int} (hI : Inv φ) (h1a : 0 ≤ v1) (h1b : v1 ≤ 7) (h2a : 0 ≤ v2) (h2b : v2 ≤ 300) (hQ : ∀ (r : Int) (ψ : hf_F), Inv ψ → Fr [44, 49, 50, 51, 44000, 44001, 44002, 44003, 44004] φ ψ → (-1 : Int) ≤ r ∧ r ≤ 300 → F_Outlook_ticksTillTrialHolds_187 φ v1 v2 = (r, ψ) → Q (some (0, r)) ψ x) : hw sc (d + 3) 102 0 [(0, (2, 187)), (1, (0, v1)), (2, (0, v2))] [] φ x Q := by
  apply sf_102_187_v
  have e0 : F_Outlook_ticksTillTrialHolds_187 φ v1 v2 = _ := rfl
  exact sf_102_187_l2 ((301 - 1 : Int).toNat + 1) φ (jm_st1 [(0, (2, 187)), (1, (0, v1)), (2, (0, v2))] 3 (0, 1)) v1 v2 1 (get_st1 rfl (by decide) (fun q => absurd q.1 (by decide))) (get_st1 rfl (by decide) (fun q => absurd q.1 (by decide))) (get_st1 rfl (by decide) (fun q => tg0 q.2)) get_st1e hI (by omega) (by omega) (by omega) (by omega) (by omega) (by omega) (by omega) (fun rr χ hIχ hFχ hpχ hEχ => hQ rr χ hIχ (fr_tr (fr_rf) hFχ (by decide)) hpχ (e0.trans hEχ))
theorem sf_101_187_v {sc : List Int} {d : Nat} {φ : hf_F} {x : Nat} {Q : Option jm_V → hf_F → Nat → Prop} {v1 : Int}
    (H : hw sc (d + 3) 74 0 [(0, (2, 17)), (1, (0, v1))] [] φ x (fun r ψ1 y1 => y1 = x ∧ φ = ψ1 ∧ (∃ z1 : Int, r = some (0, z1) ∧ (hi z1 ∧ (z1 = 0 → hw sc (d + 3) 66 0 [(0, (2, 43)), (1, (2, 17))] [] φ x (fun r ψ3 y3 => y3 = x ∧ (r = none ∧ (hw sc (d + 3) 102 0 [(0, (2, 187)), (1, (0, v1)), (2, (0, 300))] [] ψ3 x (fun r ψ4 y4 => y4 = x ∧ (∃ z4 : Int, r = some (0, z4) ∧ (Q (some (0, z4)) ψ4 x))))))) ∧ (¬ z1 = 0 → Q (some (0, 0)) φ x))))) :
    hw sc (d + 4) 101 0 [(0, (2, 187)), (1, (0, v1))] [] φ x Q := by
  refine hw_ald (b := 0) (e := 0) (by decide +kernel) rfl (by decide) ?_
  refine hr_gr (w := 17) (b := 9) (e := 1) 187 rfl (by decide +kernel) ?_
  refine hw_ld (b := 1) (e := 0) (by decide +kernel) rfl ?_
  refine hr_call (a0 := 14) (b := 74) (e := 2) (nl := 2) (As := [(0, v1)]) (R := []) 17 rfl (by decide +kernel) rfl rfl (Nat.le_of_ble_eq_true rfl) (Nat.le_of_ble_eq_true rfl) ?_
  refine hw_mono H ?_
  rintro r ψ1 y1 ⟨hyx, hψx, z1, hr, H⟩
  subst hyx
  subst hψx
  subst hr
  refine ⟨hne0, ?_⟩
  show hw sc (d + 4) 101 8 [(0, (2, 187)), (1, (0, v1))] [(0, z1)] φ y1 Q
  obtain ⟨hz2, ht2, hf2⟩ := H
  refine hw_if (a0 := 0) (b := 0) (e := 13) (by decide +kernel) hz2 (fun q => ?_) (fun q => ?_)
  · have H := ht2 q
    refine hw_ald (b := 0) (e := 0) (by decide +kernel) rfl (by decide) ?_
    refine hr_gr (w := 43) (b := 9) (e := 2) 187 rfl (by decide +kernel) ?_
    refine hw_ald (b := 0) (e := 0) (by decide +kernel) rfl (by decide) ?_
    refine hr_gr (w := 17) (b := 9) (e := 1) 187 rfl (by decide +kernel) ?_
    refine hr_call (a0 := 14) (b := 66) (e := 2) (nl := 2) (As := [(2, 17)]) (R := []) 43 rfl (by decide +kernel) rfl rfl (Nat.le_of_ble_eq_true rfl) (Nat.le_of_ble_eq_true rfl) ?_
    refine hw_mono H ?_
    rintro r ψ3 y3 ⟨hyx, hr, H⟩
    subst hyx
    subst hr
    refine ⟨hnen, ?_⟩
    show hw sc (d + 4) 101 24 [(0, (2, 187)), (1, (0, v1))] [] ψ3 y3 Q
    refine hw_ald (b := 0) (e := 0) (by decide +kernel) rfl (by decide) ?_
    refine hw_ld (b := 1) (e := 0) (by decide +kernel) rfl ?_
    refine hw_k (c := 300) (b := 2) (e := 3) (by decide +kernel) ?_
    refine hr_call (a0 := 19) (b := 102) (e := 3) (nl := 4) (As := [(0, v1), (0, 300)]) (R := []) 187 rfl (by decide +kernel) rfl rfl (Nat.le_of_ble_eq_true rfl) (Nat.le_of_ble_eq_true rfl) ?_
    refine hw_mono H ?_
    rintro r ψ4 y4 ⟨hyx, z4, hr, H⟩
    subst hyx
    subst hr
    refine ⟨hne0, ?_⟩
    show hw sc (d + 4) 101 32 [(0, (2, 187)), (1, (0, v1))] [(0, z4)] ψ4 y4 Q
    exact hw_ret (a0 := 0) (e := 0) (by decide +kernel) (Or.inl rfl) H
  · have H := hf2 q
    refine hw_k (c := 0) (b := 0) (e := 1) (by decide +kernel) ?_
    exact hw_ret (a0 := 0) (e := 0) (by decide +kernel) (Or.inl rfl) H
theorem sf_101_187 {sc : List Int} {d : Nat} {φ : hf_F} {x : Nat} {Q : Option jm_V → hf_F → Nat → Prop} {v1 : Int} (hI : Inv φ) (h1a : 0 ≤ v1) (h1b : v1 ≤ 7) (hQ : ∀ (r : Int) (ψ : hf_F), Inv ψ → Fr [44, 45, 46, 47, 48, 49, 50, 51, 44000, 44001, 44002, 44003, 44004, 44005] φ ψ → True → F_Outlook_ticksToHold_187 φ v1 = (r, ψ) → Q (some (0, r)) ψ x) : hw sc (d + 4) 101 0 [(0, (2, 187)), (1, (0, v1))] [] φ x Q := by
  apply sf_101_187_v
  have e0 : F_Outlook_ticksToHold_187 φ v1 = _ := rfl
  refine sf_74_17 (φ := φ) hI (by omega) (by omega) (fun z1 hp1 hE1 => ⟨rfl, rfl, z1, rfl, ?_⟩)
  have e1 := e0.trans (bnp_e hE1)
  refine ⟨by unfold hi; omega, fun q2 => ?_, fun q2 => ?_⟩
  · skip
    have e2a := e1.trans (if_pos q2)
    refine sf_66_43_17 (φ := φ) hI  (fun ψ3 hI3 hF3 hE3 => ⟨rfl, rfl, ?_⟩)
    have hG3 : Fr [44, 45, 46, 47, 48, 49, 50, 51, 44000, 44001, 44002, 44003, 44004, 44005] φ ψ3 := fr_tr (fr_rf) hF3 (by decide)
    have e3 := e2a.trans (bnv_e hE3)
    refine sf_102_187 (φ := ψ3) hI3 (by omega) (by omega) (by omega) (by omega) (fun z4 ψ4 hI4 hF4 hp4 hE4 => ⟨rfl, z4, rfl, ?_⟩)
    have hG4 : Fr [44, 45, 46, 47, 48, 49, 50, 51, 44000, 44001, 44002, 44003, 44004, 44005] φ ψ4 := fr_tr hG3 hF4 (by decide)
    have e4 := e3.trans (bnd_e hE4)
    exact hQ z4 ψ4 hI4 hG4 trivial e4
  · skip
    have e2b := e1.trans (if_neg q2)
    exact hQ 0 φ hI (fr_rf) trivial e2b
theorem sf_100_0_v {sc : List Int} {d : Nat} {φ : hf_F} {x : Nat} {Q : Option jm_V → hf_F → Nat → Prop} {v1 : Int}
    (H : hw sc (d + 4) 70 0 [(0, (2, 0)), (1, (0, 4)), (2, (0, v1))] [] φ x (fun r ψ1 y1 => y1 = x ∧ φ = ψ1 ∧ (∃ z1 : Int, r = some (0, z1) ∧ (hi z1 ∧ (z1 = 0 → Q (some (0, (-1 : Int))) φ x) ∧ (¬ z1 = 0 → hw sc (d + 4) 101 0 [(0, (2, 187)), (1, (0, v1))] [] φ x (fun r ψ4 y4 => y4 = x ∧ (∃ z4 : Int, r = some (0, z4) ∧ (Q (some (0, z4)) ψ4 x)))))))) :
    hw sc (d + 5) 100 0 [(0, (2, 0)), (1, (0, v1))] [] φ x Q := by
  refine hw_ald (b := 0) (e := 0) (by decide +kernel) rfl (by decide) ?_
  refine hw_k (c := 4) (b := 0) (e := 1) (by decide +kernel) ?_
  refine hw_ld (b := 1) (e := 0) (by decide +kernel) rfl ?_
  refine hr_call (a0 := 10) (b := 70) (e := 3) (nl := 3) (As := [(0, 4), (0, v1)]) (R := []) 0 rfl (by decide +kernel) rfl rfl (Nat.le_of_ble_eq_true rfl) (Nat.le_of_ble_eq_true rfl) ?_
  refine hw_mono H ?_
  rintro r ψ1 y1 ⟨hyx, hψx, z1, hr, H⟩
  subst hyx
  subst hψx
  subst hr
  refine ⟨hne0, ?_⟩
  show hw sc (d + 5) 100 6 [(0, (2, 0)), (1, (0, v1))] [(0, z1)] φ y1 Q
  obtain ⟨hz2, ht2, hf2⟩ := H
  refine hw_if (a0 := 0) (b := 0) (e := 20) (by decide +kernel) hz2 (fun q => ?_) (fun q => ?_)
  · have H := ht2 q
    refine hw_k (c := (-1 : Int)) (b := 0) (e := 1) (by decide +kernel) ?_
    exact hw_ret (a0 := 0) (e := 0) (by decide +kernel) (Or.inl rfl) H
  · have H := hf2 q
    refine hw_ald (b := 0) (e := 0) (by decide +kernel) rfl (by decide) ?_
    refine hr_gr (w := 187) (b := 0) (e := 8) 0 rfl (by decide +kernel) ?_
    refine hw_ld (b := 1) (e := 0) (by decide +kernel) rfl ?_
    refine hr_call (a0 := 19) (b := 101) (e := 2) (nl := 2) (As := [(0, v1)]) (R := []) 187 rfl (by decide +kernel) rfl rfl (Nat.le_of_ble_eq_true rfl) (Nat.le_of_ble_eq_true rfl) ?_
    refine hw_mono H ?_
    rintro r ψ4 y4 ⟨hyx, z4, hr, H⟩
    subst hyx
    subst hr
    refine ⟨hne0, ?_⟩
    show hw sc (d + 5) 100 17 [(0, (2, 0)), (1, (0, v1))] [(0, z4)] ψ4 y4 Q
    refine hw_goto (a0 := 0) (b := 0) (e := 21) (by decide +kernel) ?_
    exact hw_ret (a0 := 0) (e := 0) (by decide +kernel) (Or.inl rfl) H
theorem sf_100_0 {sc : List Int} {d : Nat} {φ : hf_F} {x : Nat} {Q : Option jm_V → hf_F → Nat → Prop} {v1 : Int} (hI : Inv φ) (h1a : (-2147483648 : Int) ≤ v1) (h1b : v1 ≤ 2147483647) (hQ : ∀ (r : Int) (ψ : hf_F), Inv ψ → Fr [44, 45, 46, 47, 48, 49, 50, 51, 44000, 44001, 44002, 44003, 44004, 44005] φ ψ → True → F_RideLaws_holds_0 φ v1 = (r, ψ) → Q (some (0, r)) ψ x) : hw sc (d + 5) 100 0 [(0, (2, 0)), (1, (0, v1))] [] φ x Q := by
  apply sf_100_0_v
  have e0 : F_RideLaws_holds_0 φ v1 = _ := rfl
  refine sf_70_0_k1_4 (φ := φ) hI (by omega) (by omega) (fun z1 hp1 hE1 => ⟨rfl, rfl, z1, rfl, ?_⟩)
  have e1 := e0.trans (bnp_e hE1)
  have f1 := iv_at (a := 6) (k := 4) (lo := 0) (u := 8) hI (by decide +kernel)
  refine ⟨by unfold hi; omega, fun q2 => ?_, fun q2 => ?_⟩
  · skip
    have e2a := e1.trans (if_pos q2)
    exact hQ (-1 : Int) φ hI (fr_rf) trivial e2a
  · skip
    have e2b := e1.trans (if_neg q2)
    refine sf_101_187 (φ := φ) hI (by omega) (by omega) (fun z4 ψ4 hI4 hF4 hp4 hE4 => ⟨rfl, z4, rfl, ?_⟩)
    have hG4 : Fr [44, 45, 46, 47, 48, 49, 50, 51, 44000, 44001, 44002, 44003, 44004, 44005] φ ψ4 := fr_tr (fr_rf) hF4 (by decide)
    have e4 := e2b.trans (bnd_e hE4)
    exact hQ z4 ψ4 hI4 hG4 trivial e4
theorem sf_104_187_v18 {sc : List Int} {d : Nat} {φ : hf_F} {x : Nat} {Q : Option jm_V → hf_F → Nat → Prop} {L : jm_L} {l1 l2 l3 l4 : Int} (g0 : jm_get L 0 = some (2, 187)) (g1 : jm_get L 1 = some (0, l1)) (g2 : jm_get L 2 = some (0, l2)) (g3 : jm_get L 3 = some (0, l3)) (g4 : jm_get L 4 = some (0, l4))
    (H : hi l4 ∧ hi (φ 6 1) ∧ ((φ 6 1) ≤ l4 → hw sc (d + 4) 104 2 (jm_st1 L 3 (0, l3 + 1)) [] φ x Q) ∧ (¬ (φ 6 1) ≤ l4 → hw sc (d + 3) 79 0 [(0, (2, 17)), (1, (0, l3)), (2, (0, l4))] [] φ x (fun r ψ2 y2 => y2 = x ∧ φ = ψ2 ∧ (∃ z2 : Int, r = some (0, z2) ∧ (hi z2 ∧ (¬ z2 = 0 → hw sc (d + 4) 104 18 (jm_st1 L 4 (0, l4 + 1)) [] φ x Q) ∧ (¬ (¬ z2 = 0) → hw sc (d + 3) 66 0 [(0, (2, 43)), (1, (2, 17))] [] φ x (fun r ψ4 y4 => y4 = x ∧ (r = none ∧ (hw sc (d + 3) 52 0 [(0, (2, 43)), (1, (0, l3)), (2, (0, l4))] [] ψ4 x (fun r ψ5 y5 => y5 = x ∧ (r = none ∧ (hw sc (d + 3) 102 0 [(0, (2, 187)), (1, (0, l1)), (2, (0, l2))] [] ψ5 x (fun r ψ6 y6 => y6 = x ∧ (∃ z6 : Int, r = some (0, z6) ∧ (hi z6 ∧ hi (-1 : Int) ∧ (z6 = (-1 : Int) → hw sc (d + 4) 104 18 (jm_st1 L 4 (0, l4 + 1)) [] ψ6 x Q) ∧ (¬ z6 = (-1 : Int) → Q (some (0, (l3 * 8) + l4)) ψ6 x)))))))))))))))) :
    hw sc (d + 4) 104 18 L [] φ x Q := by
  refine hw_ld (b := 4) (e := 1) (by decide +kernel) g4 ?_
  refine hw_ald (b := 0) (e := 0) (by decide +kernel) g0 (by decide) ?_
  refine hr_gr (w := 5) (b := 9) (e := 0) 187 rfl (by decide +kernel) ?_
  refine hr_gr (w := 6) (b := 3) (e := 0) 5 rfl (by decide +kernel) ?_
  refine hw_k (c := 1) (b := 0) (e := 1) (by decide +kernel) ?_
  refine hr_al (b := 0) (a0 := 0) (e := 0) (n := 5) (w := φ 6 1) 6 rfl (by decide +kernel) (by decide) (by decide) (by decide) rfl ?_
  obtain ⟨hz1, hy1, ht1, hf1⟩ := H
  refine hw_if2 (a0 := 0) (b := 3) (e := 90) (by decide +kernel) hz1 hy1 (fun q => ?_) (fun q => ?_)
  · have H := ht1 q
    refine hw_inc (L' := (jm_st1 L 3 (0, l3 + 1))) (c := 1) (b := 3) (e := 0) (by decide +kernel) g3 rfl ?_
    refine hw_goto (a0 := 0) (b := 0) (e := 2) (by decide +kernel) ?_
    exact H
  · have H := hf1 q
    refine hw_ald (b := 0) (e := 0) (by decide +kernel) g0 (by decide) ?_
    refine hr_gr (w := 17) (b := 9) (e := 1) 187 rfl (by decide +kernel) ?_
    refine hw_ld (b := 3) (e := 0) (by decide +kernel) g3 ?_
    refine hw_ld (b := 4) (e := 1) (by decide +kernel) g4 ?_
    refine hr_call (a0 := 14) (b := 79) (e := 3) (nl := 3) (As := [(0, l3), (0, l4)]) (R := []) 17 rfl (by decide +kernel) rfl rfl (Nat.le_of_ble_eq_true rfl) (Nat.le_of_ble_eq_true rfl) ?_
    refine hw_mono H ?_
    rintro r ψ2 y2 ⟨hyx, hψx, z2, hr, H⟩
    subst hyx
    subst hψx
    subst hr
    refine ⟨hne0, ?_⟩
    show hw sc (d + 4) 104 42 L [(0, z2)] φ y2 Q
    obtain ⟨hz3, ht3, hf3⟩ := H
    refine hw_if (a0 := 0) (b := 1) (e := 84) (by decide +kernel) hz3 (fun q => ?_) (fun q => ?_)
    · have H := ht3 q
      refine hw_inc (L' := (jm_st1 L 4 (0, l4 + 1))) (c := 1) (b := 4) (e := 0) (by decide +kernel) g4 rfl ?_
      refine hw_goto (a0 := 0) (b := 0) (e := 18) (by decide +kernel) ?_
      exact H
    · have H := hf3 q
      refine hw_ald (b := 0) (e := 0) (by decide +kernel) g0 (by decide) ?_
      refine hr_gr (w := 43) (b := 9) (e := 2) 187 rfl (by decide +kernel) ?_
      refine hw_ald (b := 0) (e := 0) (by decide +kernel) g0 (by decide) ?_
      refine hr_gr (w := 17) (b := 9) (e := 1) 187 rfl (by decide +kernel) ?_
      refine hr_call (a0 := 14) (b := 66) (e := 2) (nl := 2) (As := [(2, 17)]) (R := []) 43 rfl (by decide +kernel) rfl rfl (Nat.le_of_ble_eq_true rfl) (Nat.le_of_ble_eq_true rfl) ?_
      refine hw_mono H ?_
      rintro r ψ4 y4 ⟨hyx, hr, H⟩
      subst hyx
      subst hr
      refine ⟨hnen, ?_⟩
      show hw sc (d + 4) 104 56 L [] ψ4 y4 Q
      refine hw_ald (b := 0) (e := 0) (by decide +kernel) g0 (by decide) ?_
      refine hr_gr (w := 43) (b := 9) (e := 2) 187 rfl (by decide +kernel) ?_
      refine hw_ld (b := 3) (e := 0) (by decide +kernel) g3 ?_
      refine hw_ld (b := 4) (e := 1) (by decide +kernel) g4 ?_
      refine hr_call (a0 := 14) (b := 52) (e := 3) (nl := 3) (As := [(0, l3), (0, l4)]) (R := []) 43 rfl (by decide +kernel) rfl rfl (Nat.le_of_ble_eq_true rfl) (Nat.le_of_ble_eq_true rfl) ?_
      refine hw_mono H ?_
      rintro r ψ5 y5 ⟨hyx, hr, H⟩
      subst hyx
      subst hr
      refine ⟨hnen, ?_⟩
      show hw sc (d + 4) 104 66 L [] ψ5 y5 Q
      refine hw_ald (b := 0) (e := 0) (by decide +kernel) g0 (by decide) ?_
      refine hw_ld (b := 1) (e := 0) (by decide +kernel) g1 ?_
      refine hw_ld (b := 2) (e := 0) (by decide +kernel) g2 ?_
      refine hr_call (a0 := 19) (b := 102) (e := 3) (nl := 4) (As := [(0, l1), (0, l2)]) (R := []) 187 rfl (by decide +kernel) rfl rfl (Nat.le_of_ble_eq_true rfl) (Nat.le_of_ble_eq_true rfl) ?_
      refine hw_mono H ?_
      rintro r ψ6 y6 ⟨hyx, z6, hr, H⟩
      subst hyx
      subst hr
      refine ⟨hne0, ?_⟩
      show hw sc (d + 4) 104 72 L [(0, z6)] ψ6 y6 Q
      refine hw_k (c := (-1 : Int)) (b := 0) (e := 1) (by decide +kernel) ?_
      obtain ⟨hz7, hy7, ht7, hf7⟩ := H
      refine hw_if2 (a0 := 0) (b := 0) (e := 84) (by decide +kernel) hz7 hy7 (fun q => ?_) (fun q => ?_)
      · have H := ht7 q
        refine hw_inc (L' := (jm_st1 L 4 (0, l4 + 1))) (c := 1) (b := 4) (e := 0) (by decide +kernel) g4 rfl ?_
        refine hw_goto (a0 := 0) (b := 0) (e := 18) (by decide +kernel) ?_
        exact H
      · have H := hf7 q
        refine hw_ld (b := 3) (e := 0) (by decide +kernel) g3 ?_
        refine hw_k (c := 8) (b := 1) (e := 2) (by decide +kernel) ?_
        refine hw_bin (w := l3 * 8) (a0 := 0) (b := 2) (e := 0) (by decide +kernel) rfl ?_
        refine hw_ld (b := 4) (e := 1) (by decide +kernel) g4 ?_
        refine hw_bin (w := (l3 * 8) + l4) (a0 := 0) (b := 0) (e := 0) (by decide +kernel) rfl ?_
        exact hw_ret (a0 := 0) (e := 0) (by decide +kernel) (Or.inl rfl) H
theorem sf_104_187_l18 {sc : List Int} {d x : Nat} {Q : Option jm_V → hf_F → Nat → Prop} {K : hf_F → Int → Int → Int → Int × hf_F} : ∀ (n : Nat) (φ : hf_F) (L : jm_L) (l1 l2 l3 l4 : Int), jm_get L 0 = some (2, 187) → jm_get L 1 = some (0, l1) → jm_get L 2 = some (0, l2) → jm_get L 3 = some (0, l3) → jm_get L 4 = some (0, l4) → Inv φ → 8 - l4 < (n : Int) → 0 ≤ l1 → l1 ≤ 7 → 1 ≤ l2 → l2 ≤ 99 → 0 ≤ l3 → l3 ≤ 5 → 0 ≤ l4 → l4 ≤ 8 → ∀ (N : Nat), 6 - l3 ≤ (N : Int) → (∀ (φ2 : hf_F) (L2 : jm_L) (u1 u2 u3 : Int), jm_get L2 0 = some (2, 187) → jm_get L2 1 = some (0, u1) → jm_get L2 2 = some (0, u2) → jm_get L2 3 = some (0, u3) → Inv φ2 → 6 - u3 < (N : Int) → 0 ≤ u1 → u1 ≤ 7 → 1 ≤ u2 → u2 ≤ 99 → 0 ≤ u3 → u3 ≤ 6 → Fr [44, 45, 46, 47, 48, 49, 50, 51, 44000, 44001, 44002, 44003, 44004, 44005] φ φ2 → F_Outlook_bestMount_187_l18 K n φ l1 l2 l3 l4 = K φ2 u1 u2 u3 → hw sc (d + 4) 104 2 L2 [] φ2 x Q) → (∀ (r : Int) (ψ : hf_F), Inv ψ → Fr [44, 45, 46, 47, 48, 49, 50, 51, 44000, 44001, 44002, 44003, 44004, 44005] φ ψ → (-1 : Int) ≤ r ∧ r ≤ 47 → F_Outlook_bestMount_187_l18 K n φ l1 l2 l3 l4 = (r, ψ) → Q (some (0, r)) ψ x) → hw sc (d + 4) 104 18 L [] φ x Q := by
  intro n
  induction n with
  | zero =>
    intro φ L l1 l2 l3 l4 g0 g1 g2 g3 g4 hI hM b1a b1b b2a b2b b3a b3b b4a b4b N hN hO hQ
    exfalso
    omega
  | succ n ih =>
    intro φ L l1 l2 l3 l4 g0 g1 g2 g3 g4 hI hM b1a b1b b2a b2b b3a b3b b4a b4b N hN hO hQ
    refine sf_104_187_v18 g0 g1 g2 g3 g4 ?_
    have e0 := F_Outlook_bestMount_187_l18_s (φ := φ) (l1 := l1) (l2 := l2) (l3 := l3) (l4 := l4) K n
    have f1 := iv_at (a := 6) (k := 1) (lo := 0) (u := 8) hI (by decide +kernel)
    refine ⟨by unfold hi; omega, by unfold hi; omega, fun q1 => ?_, fun q1 => ?_⟩
    · skip
      have e1a := e0.trans (if_pos q1)
      exact hO φ (jm_st1 L 3 (0, l3 + 1)) l1 l2 (l3 + 1) (get_st1 g0 (by decide) (fun q => absurd q.1 (by decide))) (get_st1 g1 (by decide) (fun q => absurd q.1 (by decide))) (get_st1 g2 (by decide) (fun q => tg0 q.2)) get_st1e hI (by omega) (by omega) (by omega) (by omega) (by omega) (by omega) (by omega) (fr_rf) e1a
    · skip
      have e1b := e0.trans (if_neg q1)
      refine sf_79_17 (φ := φ) hI (by omega) (by omega) (by omega) (by omega) (fun z2 hp2 hE2 => ⟨rfl, rfl, z2, rfl, ?_⟩)
      have e2 := e1b.trans (bnp_e hE2)
      refine ⟨by unfold hi; omega, fun q3 => ?_, fun q3 => ?_⟩
      · skip
        have e3a := e2.trans (if_pos q3)
        exact ih φ (jm_st1 L 4 (0, l4 + 1)) l1 l2 l3 (l4 + 1) (get_st1 g0 (by decide) (fun q => absurd q.1 (by decide))) (get_st1 g1 (by decide) (fun q => absurd q.1 (by decide))) (get_st1 g2 (by decide) (fun q => absurd q.1 (by decide))) (get_st1 g3 (by decide) (fun q => tg0 q.2)) get_st1e hI (by omega) (by omega) (by omega) (by omega) (by omega) (by omega) (by omega) (by omega) (by omega) N (by omega) (fun φ2 L2 u1 u2 u3 w0 w1 w2 w3 hI2 hM2 x0 x1 x2 x3 x4 x5 hF2 hE2 => hO φ2 L2 u1 u2 u3 w0 w1 w2 w3 hI2 hM2 x0 x1 x2 x3 x4 x5 (fr_tr (fr_rf) hF2 (by decide)) (e3a.trans hE2)) (fun rr χ hIχ hFχ hpχ hEχ => hQ rr χ hIχ (fr_tr (fr_rf) hFχ (by decide)) hpχ (e3a.trans hEχ))
      · skip
        have e3b := e2.trans (if_neg q3)
        refine sf_66_43_17 (φ := φ) hI  (fun ψ4 hI4 hF4 hE4 => ⟨rfl, rfl, ?_⟩)
        have hG4 : Fr [44, 45, 46, 47, 48, 49, 50, 51, 44000, 44001, 44002, 44003, 44004, 44005] φ ψ4 := fr_tr (fr_rf) hF4 (by decide)
        have e4 := e3b.trans (bnv_e hE4)
        refine sf_52_43 (φ := ψ4) hI4 (by omega) (by omega) (by omega) (by omega) (fun ψ5 hI5 hF5 hE5 => ⟨rfl, rfl, ?_⟩)
        have hG5 : Fr [44, 45, 46, 47, 48, 49, 50, 51, 44000, 44001, 44002, 44003, 44004, 44005] φ ψ5 := fr_tr hG4 hF5 (by decide)
        have e5 := e4.trans (bnv_e hE5)
        refine sf_102_187 (φ := ψ5) hI5 (by omega) (by omega) (by omega) (by omega) (fun z6 ψ6 hI6 hF6 hp6 hE6 => ⟨rfl, z6, rfl, ?_⟩)
        have hG6 : Fr [44, 45, 46, 47, 48, 49, 50, 51, 44000, 44001, 44002, 44003, 44004, 44005] φ ψ6 := fr_tr hG5 hF6 (by decide)
        have e6 := e5.trans (bnd_e hE6)
        refine ⟨by unfold hi; omega, by unfold hi; omega, fun q7 => ?_, fun q7 => ?_⟩
        · skip
          have e7a := e6.trans (if_pos q7)
          exact ih ψ6 (jm_st1 L 4 (0, l4 + 1)) l1 l2 l3 (l4 + 1) (get_st1 g0 (by decide) (fun q => absurd q.1 (by decide))) (get_st1 g1 (by decide) (fun q => absurd q.1 (by decide))) (get_st1 g2 (by decide) (fun q => absurd q.1 (by decide))) (get_st1 g3 (by decide) (fun q => tg0 q.2)) get_st1e hI6 (by omega) (by omega) (by omega) (by omega) (by omega) (by omega) (by omega) (by omega) (by omega) N (by omega) (fun φ2 L2 u1 u2 u3 w0 w1 w2 w3 hI2 hM2 x0 x1 x2 x3 x4 x5 hF2 hE2 => hO φ2 L2 u1 u2 u3 w0 w1 w2 w3 hI2 hM2 x0 x1 x2 x3 x4 x5 (fr_tr hG6 hF2 (by decide)) (e7a.trans hE2)) (fun rr χ hIχ hFχ hpχ hEχ => hQ rr χ hIχ (fr_tr hG6 hFχ (by decide)) hpχ (e7a.trans hEχ))
        · skip
          have e7b := e6.trans (if_neg q7)
          exact hQ ((l3 * 8) + l4) ψ6 hI6 hG6 ⟨by omega, by omega⟩ e7b
theorem sf_104_187_v2 {sc : List Int} {d : Nat} {φ : hf_F} {x : Nat} {Q : Option jm_V → hf_F → Nat → Prop} {L : jm_L} {l1 l2 l3 : Int} (g0 : jm_get L 0 = some (2, 187)) (g1 : jm_get L 1 = some (0, l1)) (g2 : jm_get L 2 = some (0, l2)) (g3 : jm_get L 3 = some (0, l3))
    (H : hi l3 ∧ hi (φ 6 3) ∧ ((φ 6 3) ≤ l3 → Q (some (0, (-1 : Int))) φ x) ∧ (¬ (φ 6 3) ≤ l3 → hw sc (d + 4) 104 18 (jm_st1 L 4 (0, 0)) [] φ x Q)) :
    hw sc (d + 4) 104 2 L [] φ x Q := by
  refine hw_ld (b := 3) (e := 0) (by decide +kernel) g3 ?_
  refine hw_ald (b := 0) (e := 0) (by decide +kernel) g0 (by decide) ?_
  refine hr_gr (w := 5) (b := 9) (e := 0) 187 rfl (by decide +kernel) ?_
  refine hr_gr (w := 6) (b := 3) (e := 0) 5 rfl (by decide +kernel) ?_
  refine hw_k (c := 3) (b := 0) (e := 1) (by decide +kernel) ?_
  refine hr_al (b := 0) (a0 := 0) (e := 0) (n := 5) (w := φ 6 3) 6 rfl (by decide +kernel) (by decide) (by decide) (by decide) rfl ?_
  obtain ⟨hz1, hy1, ht1, hf1⟩ := H
  refine hw_if2 (a0 := 0) (b := 3) (e := 96) (by decide +kernel) hz1 hy1 (fun q => ?_) (fun q => ?_)
  · have H := ht1 q
    refine hw_k (c := (-1 : Int)) (b := 0) (e := 1) (by decide +kernel) ?_
    exact hw_ret (a0 := 0) (e := 0) (by decide +kernel) (Or.inl rfl) H
  · have H := hf1 q
    refine hw_k (c := 0) (b := 0) (e := 1) (by decide +kernel) ?_
    refine hw_st (L' := (jm_st1 L 4 (0, 0))) (b := 4) (e := 1) (by decide +kernel) rfl ?_
    exact H
theorem sf_104_187_l2 {sc : List Int} {d x : Nat} {Q : Option jm_V → hf_F → Nat → Prop} : ∀ (n : Nat) (φ : hf_F) (L : jm_L) (l1 l2 l3 : Int), jm_get L 0 = some (2, 187) → jm_get L 1 = some (0, l1) → jm_get L 2 = some (0, l2) → jm_get L 3 = some (0, l3) → Inv φ → 6 - l3 < (n : Int) → 0 ≤ l1 → l1 ≤ 7 → 1 ≤ l2 → l2 ≤ 99 → 0 ≤ l3 → l3 ≤ 6 → (∀ (r : Int) (ψ : hf_F), Inv ψ → Fr [44, 45, 46, 47, 48, 49, 50, 51, 44000, 44001, 44002, 44003, 44004, 44005] φ ψ → (-1 : Int) ≤ r ∧ r ≤ 47 → F_Outlook_bestMount_187_l2 n φ l1 l2 l3 = (r, ψ) → Q (some (0, r)) ψ x) → hw sc (d + 4) 104 2 L [] φ x Q := by
  intro n
  induction n with
  | zero =>
    intro φ L l1 l2 l3 g0 g1 g2 g3 hI hM b1a b1b b2a b2b b3a b3b hQ
    exfalso
    omega
  | succ n ih =>
    intro φ L l1 l2 l3 g0 g1 g2 g3 hI hM b1a b1b b2a b2b b3a b3b hQ
    refine sf_104_187_v2 g0 g1 g2 g3 ?_
    have e0 := F_Outlook_bestMount_187_l2_s (φ := φ) (l1 := l1) (l2 := l2) (l3 := l3) n
    have f1 := iv_at (a := 6) (k := 3) (lo := 0) (u := 6) hI (by decide +kernel)
    refine ⟨by unfold hi; omega, by unfold hi; omega, fun q1 => ?_, fun q1 => ?_⟩
    · skip
      have e1a := e0.trans (if_pos q1)
      exact hQ (-1 : Int) φ hI (fr_rf) ⟨by omega, by omega⟩ e1a
    · skip
      have e1b := e0.trans (if_neg q1)
      exact sf_104_187_l18 (K := F_Outlook_bestMount_187_l2 n) ((8 - 0 : Int).toNat + 1) φ (jm_st1 L 4 (0, 0)) l1 l2 l3 0 (get_st1 g0 (by decide) (fun q => absurd q.1 (by decide))) (get_st1 g1 (by decide) (fun q => absurd q.1 (by decide))) (get_st1 g2 (by decide) (fun q => absurd q.1 (by decide))) (get_st1 g3 (by decide) (fun q => tg0 q.2)) get_st1e hI (by omega) (by omega) (by omega) (by omega) (by omega) (by omega) (by omega) (by omega) (by omega) n (by omega) (fun φ2 L2 u1 u2 u3 w0 w1 w2 w3 hI2 hM2 x0 x1 x2 x3 x4 x5 hF2 hE2 => ih φ2 L2 u1 u2 u3 w0 w1 w2 w3 hI2 hM2 x0 x1 x2 x3 x4 x5 (fun rr χ hIχ hFχ hpχ hEχ => hQ rr χ hIχ (fr_tr (fr_tr (fr_rf) hF2 (by decide)) hFχ (by decide)) hpχ ((e1b.trans hE2).trans hEχ))) (fun rr χ hIχ hFχ hpχ hEχ => hQ rr χ hIχ (fr_tr (fr_rf) hFχ (by decide)) hpχ (e1b.trans hEχ))
theorem sf_104_187_v {sc : List Int} {d : Nat} {φ : hf_F} {x : Nat} {Q : Option jm_V → hf_F → Nat → Prop} {v1 v2 : Int}
    (H : hw sc (d + 4) 104 2 (jm_st1 [(0, (2, 187)), (1, (0, v1)), (2, (0, v2))] 3 (0, 0)) [] φ x Q) :
    hw sc (d + 4) 104 0 [(0, (2, 187)), (1, (0, v1)), (2, (0, v2))] [] φ x Q := by
  refine hw_k (c := 0) (b := 0) (e := 1) (by decide +kernel) ?_
  refine hw_st (L' := (jm_st1 [(0, (2, 187)), (1, (0, v1)), (2, (0, v2))] 3 (0, 0))) (b := 3) (e := 0) (by decide +kernel) rfl ?_
  exact H
theorem sf_104_187 {sc : List Int} {d : Nat} {φ : hf_F} {x : Nat} {Q : Option jm_V → hf_F → Nat → Prop} {v1 v2 : Int} (hI : Inv φ) (h1a : 0 ≤ v1) (h1b : v1 ≤ 7) (h2a : 1 ≤ v2) (h2b : v2 ≤ 99) (hQ : ∀ (r : Int) (ψ : hf_F), Inv ψ → Fr [44, 45, 46, 47, 48, 49, 50, 51, 44000, 44001, 44002, 44003, 44004, 44005] φ ψ → (-1 : Int) ≤ r ∧ r ≤ 47 → F_Outlook_bestMount_187 φ v1 v2 = (r, ψ) → Q (some (0, r)) ψ x) : hw sc (d + 4) 104 0 [(0, (2, 187)), (1, (0, v1)), (2, (0, v2))] [] φ x Q := by
  apply sf_104_187_v
  have e0 : F_Outlook_bestMount_187 φ v1 v2 = _ := rfl
  exact sf_104_187_l2 ((6 - 0 : Int).toNat + 1) φ (jm_st1 [(0, (2, 187)), (1, (0, v1)), (2, (0, v2))] 3 (0, 0)) v1 v2 0 (get_st1 rfl (by decide) (fun q => absurd q.1 (by decide))) (get_st1 rfl (by decide) (fun q => absurd q.1 (by decide))) (get_st1 rfl (by decide) (fun q => tg0 q.2)) get_st1e hI (by omega) (by omega) (by omega) (by omega) (by omega) (by omega) (by omega) (fun rr χ hIχ hFχ hpχ hEχ => hQ rr χ hIχ (fr_tr (fr_rf) hFχ (by decide)) hpχ (e0.trans hEχ))
theorem sf_103_0_v {sc : List Int} {d : Nat} {φ : hf_F} {x : Nat} {Q : Option jm_V → hf_F → Nat → Prop} {v1 v2 : Int}
    (H : hw sc (d + 4) 70 0 [(0, (2, 0)), (1, (0, 4)), (2, (0, v1))] [] φ x (fun r ψ1 y1 => y1 = x ∧ φ = ψ1 ∧ (∃ z1 : Int, r = some (0, z1) ∧ (hi z1 ∧ (z1 = 0 → Q (some (0, (-1 : Int))) φ x) ∧ (¬ z1 = 0 → hi v2 ∧ hi 1 ∧ (v2 < 1 → Q (some (0, (-1 : Int))) φ x) ∧ (¬ v2 < 1 → hi v2 ∧ hi 99 ∧ (v2 ≤ 99 → hw sc (d + 4) 104 0 [(0, (2, 187)), (1, (0, v1)), (2, (0, v2))] [] φ x (fun r ψ7 y7 => y7 = x ∧ (∃ z7 : Int, r = some (0, z7) ∧ (hi z7 ∧ hi (-1 : Int) ∧ (¬ z7 = (-1 : Int) → hi z7 ∧ hi 8 ∧ ¬ (8 : Int) = 0 ∧ (hi z7 ∧ hi 8 ∧ ¬ (8 : Int) = 0 ∧ (Q (some (0, (z7).tdiv 8)) (hf_up ψ7 0 13 ((z7).tmod 8)) x))) ∧ (¬ (¬ z7 = (-1 : Int)) → Q (some (0, (-1 : Int))) ψ7 x))))) ∧ (¬ v2 ≤ 99 → Q (some (0, (-1 : Int))) φ x))))))) :
    hw sc (d + 5) 103 0 [(0, (2, 0)), (1, (0, v1)), (2, (0, v2))] [] φ x Q := by
  refine hw_ald (b := 0) (e := 0) (by decide +kernel) rfl (by decide) ?_
  refine hw_k (c := 4) (b := 0) (e := 1) (by decide +kernel) ?_
  refine hw_ld (b := 1) (e := 0) (by decide +kernel) rfl ?_
  refine hr_call (a0 := 10) (b := 70) (e := 3) (nl := 3) (As := [(0, 4), (0, v1)]) (R := []) 0 rfl (by decide +kernel) rfl rfl (Nat.le_of_ble_eq_true rfl) (Nat.le_of_ble_eq_true rfl) ?_
  refine hw_mono H ?_
  rintro r ψ1 y1 ⟨hyx, hψx, z1, hr, H⟩
  subst hyx
  subst hψx
  subst hr
  refine ⟨hne0, ?_⟩
  show hw sc (d + 5) 103 6 [(0, (2, 0)), (1, (0, v1)), (2, (0, v2))] [(0, z1)] φ y1 Q
  obtain ⟨hz2, ht2, hf2⟩ := H
  refine hw_if (a0 := 0) (b := 0) (e := 20) (by decide +kernel) hz2 (fun q => ?_) (fun q => ?_)
  · have H := ht2 q
    refine hw_k (c := (-1 : Int)) (b := 0) (e := 1) (by decide +kernel) ?_
    exact hw_ret (a0 := 0) (e := 0) (by decide +kernel) (Or.inl rfl) H
  · have H := hf2 q
    refine hw_ld (b := 2) (e := 0) (by decide +kernel) rfl ?_
    refine hw_k (c := 1) (b := 0) (e := 1) (by decide +kernel) ?_
    obtain ⟨hz4, hy4, ht4, hf4⟩ := H
    refine hw_if2 (a0 := 0) (b := 2) (e := 20) (by decide +kernel) hz4 hy4 (fun q => ?_) (fun q => ?_)
    · have H := ht4 q
      refine hw_k (c := (-1 : Int)) (b := 0) (e := 1) (by decide +kernel) ?_
      exact hw_ret (a0 := 0) (e := 0) (by decide +kernel) (Or.inl rfl) H
    · have H := hf4 q
      refine hw_ld (b := 2) (e := 0) (by decide +kernel) rfl ?_
      refine hw_k (c := 99) (b := 1) (e := 2) (by decide +kernel) ?_
      obtain ⟨hz6, hy6, ht6, hf6⟩ := H
      refine hw_if2 (a0 := 0) (b := 5) (e := 22) (by decide +kernel) hz6 hy6 (fun q => ?_) (fun q => ?_)
      · have H := ht6 q
        refine hw_ald (b := 0) (e := 0) (by decide +kernel) rfl (by decide) ?_
        refine hr_gr (w := 187) (b := 0) (e := 8) 0 rfl (by decide +kernel) ?_
        refine hw_ld (b := 1) (e := 0) (by decide +kernel) rfl ?_
        refine hw_ld (b := 2) (e := 0) (by decide +kernel) rfl ?_
        refine hr_call (a0 := 19) (b := 104) (e := 3) (nl := 5) (As := [(0, v1), (0, v2)]) (R := []) 187 rfl (by decide +kernel) rfl rfl (Nat.le_of_ble_eq_true rfl) (Nat.le_of_ble_eq_true rfl) ?_
        refine hw_mono H ?_
        rintro r ψ7 y7 ⟨hyx, z7, hr, H⟩
        subst hyx
        subst hr
        refine ⟨hne0, ?_⟩
        show hw sc (d + 5) 103 31 [(0, (2, 0)), (1, (0, v1)), (2, (0, v2))] [(0, z7)] ψ7 y7 Q
        refine hw_st (L' := (jm_st1 [(0, (2, 0)), (1, (0, v1)), (2, (0, v2))] 3 (0, z7))) (b := 3) (e := 0) (by decide +kernel) rfl ?_
        refine hw_ld (b := 3) (e := 0) (by decide +kernel) get_st1e ?_
        refine hw_k (c := (-1 : Int)) (b := 0) (e := 1) (by decide +kernel) ?_
        obtain ⟨hz8, hy8, ht8, hf8⟩ := H
        refine hw_if2 (a0 := 0) (b := 1) (e := 39) (by decide +kernel) hz8 hy8 (fun q => ?_) (fun q => ?_)
        · have H := ht8 q
          refine hw_ald (b := 0) (e := 0) (by decide +kernel) (get_st1 rfl (by decide) (fun q => absurd q.1 (by decide))) (by decide) ?_
          refine hw_ld (b := 3) (e := 0) (by decide +kernel) get_st1e ?_
          refine hw_k (c := 8) (b := 1) (e := 2) (by decide +kernel) ?_
          obtain ⟨hz9, hy9, hn9, H⟩ := H
          refine hw_bin (w := (z7).tmod 8) (a0 := 0) (b := 10) (e := 0) (by decide +kernel) (hb_rem hz9 hy9 hn9) ?_
          refine hr_pi (b := 0) (e := 13) 0 rfl (by decide +kernel) ?_
          refine hw_ld (b := 3) (e := 0) (by decide +kernel) get_st1e ?_
          refine hw_k (c := 8) (b := 1) (e := 2) (by decide +kernel) ?_
          obtain ⟨hz10, hy10, hn10, H⟩ := H
          refine hw_bin (w := (z7).tdiv 8) (a0 := 0) (b := 9) (e := 0) (by decide +kernel) (hb_div hz10 hy10 hn10) ?_
          exact hw_ret (a0 := 0) (e := 0) (by decide +kernel) (Or.inl rfl) H
        · have H := hf8 q
          refine hw_k (c := (-1 : Int)) (b := 0) (e := 1) (by decide +kernel) ?_
          exact hw_ret (a0 := 0) (e := 0) (by decide +kernel) (Or.inl rfl) H
      · have H := hf6 q
        refine hw_k (c := (-1 : Int)) (b := 0) (e := 1) (by decide +kernel) ?_
        exact hw_ret (a0 := 0) (e := 0) (by decide +kernel) (Or.inl rfl) H
theorem sf_103_0 {sc : List Int} {d : Nat} {φ : hf_F} {x : Nat} {Q : Option jm_V → hf_F → Nat → Prop} {v1 v2 : Int} (hI : Inv φ) (h1a : (-2147483648 : Int) ≤ v1) (h1b : v1 ≤ 2147483647) (h2a : (-2147483648 : Int) ≤ v2) (h2b : v2 ≤ 2147483647) (hQ : ∀ (r : Int) (ψ : hf_F), Inv ψ → Fr [44, 45, 46, 47, 48, 49, 50, 51, 1013, 44000, 44001, 44002, 44003, 44004, 44005] φ ψ → True → F_RideLaws_aim_0 φ v1 v2 = (r, ψ) → Q (some (0, r)) ψ x) : hw sc (d + 5) 103 0 [(0, (2, 0)), (1, (0, v1)), (2, (0, v2))] [] φ x Q := by
  apply sf_103_0_v
  have e0 : F_RideLaws_aim_0 φ v1 v2 = _ := rfl
  refine sf_70_0_k1_4 (φ := φ) hI (by omega) (by omega) (fun z1 hp1 hE1 => ⟨rfl, rfl, z1, rfl, ?_⟩)
  have e1 := e0.trans (bnp_e hE1)
  have f1 := iv_at (a := 6) (k := 4) (lo := 0) (u := 8) hI (by decide +kernel)
  refine ⟨by unfold hi; omega, fun q2 => ?_, fun q2 => ?_⟩
  · skip
    have e2a := e1.trans (if_pos q2)
    exact hQ (-1 : Int) φ hI (fr_rf) trivial e2a
  · skip
    have e2b := e1.trans (if_neg q2)
    refine ⟨by unfold hi; omega, by unfold hi; omega, fun q4 => ?_, fun q4 => ?_⟩
    · skip
      have e4a := e2b.trans (if_pos q4)
      exact hQ (-1 : Int) φ hI (fr_rf) trivial e4a
    · skip
      have e4b := e2b.trans (if_neg q4)
      refine ⟨by unfold hi; omega, by unfold hi; omega, fun q6 => ?_, fun q6 => ?_⟩
      · skip
        have e6a := e4b.trans (if_pos q6)
        refine sf_104_187 (φ := φ) hI (by omega) (by omega) (by omega) (by omega) (fun z7 ψ7 hI7 hF7 hp7 hE7 => ⟨rfl, z7, rfl, ?_⟩)
        have hG7 : Fr [44, 45, 46, 47, 48, 49, 50, 51, 1013, 44000, 44001, 44002, 44003, 44004, 44005] φ ψ7 := fr_tr (fr_rf) hF7 (by decide)
        have e7 := e6a.trans (bnd_e hE7)
        refine ⟨by unfold hi; omega, by unfold hi; omega, fun q8 => ?_, fun q8 => ?_⟩
        · skip
          have e8a := e7.trans (if_pos q8)
          refine ⟨by unfold hi; omega, by unfold hi; omega, by omega, ?_⟩
          have f2 := hr_tmod (z := z7) (y := 8) (by omega) (by omega)
          have i3 : Inv (hf_up ψ7 0 13 ((z7).tmod 8)) := iv_up (lo := (-1 : Int)) (u := 7) hI7 (by decide +kernel) (by omega) (by omega)
          have r3 : Fr [44, 45, 46, 47, 48, 49, 50, 51, 1013, 44000, 44001, 44002, 44003, 44004, 44005] φ (hf_up ψ7 0 13 ((z7).tmod 8)) := fr_up hG7 (by decide)
          refine ⟨by unfold hi; omega, by unfold hi; omega, by omega, ?_⟩
          have f4 := hr_tdiv (z := z7) (y := 8) (by omega) (by omega)
          exact hQ ((z7).tdiv 8) (hf_up ψ7 0 13 ((z7).tmod 8)) i3 r3 trivial e8a
        · skip
          have e8b := e7.trans (if_neg q8)
          exact hQ (-1 : Int) ψ7 hI7 hG7 trivial e8b
      · skip
        have e6b := e4b.trans (if_neg q6)
        exact hQ (-1 : Int) φ hI (fr_rf) trivial e6b
theorem sf_163_187_v22 {sc : List Int} {d : Nat} {φ : hf_F} {x : Nat} {Q : Option jm_V → hf_F → Nat → Prop} {L : jm_L} {l1 l2 l3 l4 l5 l6 : Int} (g0 : jm_get L 0 = some (2, 187)) (g1 : jm_get L 1 = some (0, l1)) (g2 : jm_get L 2 = some (0, l2)) (g3 : jm_get L 3 = some (0, l3)) (g4 : jm_get L 4 = some (0, l4)) (g5 : jm_get L 5 = some (0, l5)) (g6 : jm_get L 6 = some (0, l6))
    (H : hi l6 ∧ hi (hb_shl 1 (φ 6 3)) ∧ ((hb_shl 1 (φ 6 3)) ≤ l6 → Q (some (0, l5)) φ x) ∧ (¬ (hb_shl 1 (φ 6 3)) ≤ l6 → hi (hb_and (hb_shr l6 l1) 1) ∧ (¬ (hb_and (hb_shr l6 l1) 1) = 0 → hw sc (d + 3) 163 22 (jm_st1 L 6 (0, l6 + 1)) [] φ x Q) ∧ (¬ (¬ (hb_and (hb_shr l6 l1) 1) = 0) → hw sc (d + 2) 164 0 [(0, (2, 187)), (1, (0, l6))] [] φ x (fun r ψ4 y4 => y4 = x ∧ φ = ψ4 ∧ (∃ z4 : Int, r = some (0, z4) ∧ (hi (hb_and z4 l3) ∧ ((hb_and z4 l3) = (jm_n l3) → hw sc (d + 3) 163 22 (jm_st1 (jm_st1 L 7 (0, z4)) 6 (0, l6 + 1)) [] φ x Q) ∧ (¬ (hb_and z4 l3) = (jm_n l3) → hi (hb_and (hb_or z4 l4) l3) ∧ (¬ (hb_and (hb_or z4 l4) l3) = (jm_n l3) → hw sc (d + 3) 163 22 (jm_st1 (jm_st1 L 7 (0, z4)) 6 (0, l6 + 1)) [] φ x Q) ∧ (¬ (¬ (hb_and (hb_or z4 l4) l3) = (jm_n l3)) → hw sc (d + 3) 163 22 (jm_st1 (jm_st1 (jm_st1 L 7 (0, z4)) 5 (0, l5 + 1)) 6 (0, l6 + 1)) [] φ x Q)))))))) :
    hw sc (d + 3) 163 22 L [] φ x Q := by
  refine hw_ld (b := 6) (e := 1) (by decide +kernel) g6 ?_
  refine hw_k (c := 1) (b := 0) (e := 1) (by decide +kernel) ?_
  refine hw_ald (b := 0) (e := 0) (by decide +kernel) g0 (by decide) ?_
  refine hr_gr (w := 5) (b := 9) (e := 0) 187 rfl (by decide +kernel) ?_
  refine hr_gr (w := 6) (b := 3) (e := 0) 5 rfl (by decide +kernel) ?_
  refine hw_k (c := 3) (b := 0) (e := 1) (by decide +kernel) ?_
  refine hr_al (b := 0) (a0 := 0) (e := 0) (n := 5) (w := φ 6 3) 6 rfl (by decide +kernel) (by decide) (by decide) (by decide) rfl ?_
  refine hw_bin (w := hb_shl 1 (φ 6 3)) (a0 := 0) (b := 6) (e := 0) (by decide +kernel) rfl ?_
  obtain ⟨hz1, hy1, ht1, hf1⟩ := H
  refine hw_if2 (a0 := 0) (b := 3) (e := 83) (by decide +kernel) hz1 hy1 (fun q => ?_) (fun q => ?_)
  · have H := ht1 q
    refine hw_ld (b := 5) (e := 1) (by decide +kernel) g5 ?_
    exact hw_ret (a0 := 0) (e := 0) (by decide +kernel) (Or.inl rfl) H
  · have H := hf1 q
    refine hw_ld (b := 6) (e := 1) (by decide +kernel) g6 ?_
    refine hw_ld (b := 1) (e := 0) (by decide +kernel) g1 ?_
    refine hw_bin (w := hb_shr l6 l1) (a0 := 0) (b := 7) (e := 0) (by decide +kernel) rfl ?_
    refine hw_k (c := 1) (b := 0) (e := 1) (by decide +kernel) ?_
    refine hw_bin (w := hb_and (hb_shr l6 l1) 1) (a0 := 0) (b := 3) (e := 0) (by decide +kernel) rfl ?_
    obtain ⟨hz3, ht3, hf3⟩ := H
    refine hw_if (a0 := 0) (b := 1) (e := 77) (by decide +kernel) hz3 (fun q => ?_) (fun q => ?_)
    · have H := ht3 q
      refine hw_inc (L' := (jm_st1 L 6 (0, l6 + 1))) (c := 1) (b := 6) (e := 0) (by decide +kernel) g6 rfl ?_
      refine hw_goto (a0 := 0) (b := 0) (e := 22) (by decide +kernel) ?_
      exact H
    · have H := hf3 q
      refine hw_ald (b := 0) (e := 0) (by decide +kernel) g0 (by decide) ?_
      refine hw_ld (b := 6) (e := 1) (by decide +kernel) g6 ?_
      refine hr_call (a0 := 19) (b := 164) (e := 2) (nl := 4) (As := [(0, l6)]) (R := []) 187 rfl (by decide +kernel) rfl rfl (Nat.le_of_ble_eq_true rfl) (Nat.le_of_ble_eq_true rfl) ?_
      refine hw_mono H ?_
      rintro r ψ4 y4 ⟨hyx, hψx, z4, hr, H⟩
      subst hyx
      subst hψx
      subst hr
      refine ⟨hne0, ?_⟩
      show hw sc (d + 3) 163 53 L [(0, z4)] φ y4 Q
      refine hw_st (L' := (jm_st1 L 7 (0, z4))) (b := 7) (e := 1) (by decide +kernel) rfl ?_
      refine hw_ld (b := 7) (e := 1) (by decide +kernel) get_st1e ?_
      refine hw_ld (b := 3) (e := 0) (by decide +kernel) (get_st1 g3 (by decide) (fun q => absurd q.1 (by decide))) ?_
      refine hw_bin (w := hb_and z4 l3) (a0 := 0) (b := 3) (e := 0) (by decide +kernel) rfl ?_
      refine hw_ld (b := 3) (e := 0) (by decide +kernel) (get_st1 g3 (by decide) (fun q => absurd q.1 (by decide))) ?_
      obtain ⟨hz5, ht5, hf5⟩ := H
      refine hw_if2r (a0 := 0) (b := 0) (e := 77) (by decide +kernel) hz5 (fun q => ?_) (fun q => ?_)
      · have H := ht5 q
        refine hw_inc (L' := (jm_st1 (jm_st1 L 7 (0, z4)) 6 (0, l6 + 1))) (c := 1) (b := 6) (e := 0) (by decide +kernel) (get_st1 g6 (by decide) (fun q => tg0 q.2)) rfl ?_
        refine hw_goto (a0 := 0) (b := 0) (e := 22) (by decide +kernel) ?_
        exact H
      · have H := hf5 q
        refine hw_ld (b := 7) (e := 1) (by decide +kernel) get_st1e ?_
        refine hw_ld (b := 4) (e := 1) (by decide +kernel) (get_st1 g4 (by decide) (fun q => absurd q.1 (by decide))) ?_
        refine hw_bin (w := hb_or z4 l4) (a0 := 0) (b := 4) (e := 0) (by decide +kernel) rfl ?_
        refine hw_ld (b := 3) (e := 0) (by decide +kernel) (get_st1 g3 (by decide) (fun q => absurd q.1 (by decide))) ?_
        refine hw_bin (w := hb_and (hb_or z4 l4) l3) (a0 := 0) (b := 3) (e := 0) (by decide +kernel) rfl ?_
        refine hw_ld (b := 3) (e := 0) (by decide +kernel) (get_st1 g3 (by decide) (fun q => absurd q.1 (by decide))) ?_
        obtain ⟨hz6, ht6, hf6⟩ := H
        refine hw_if2r (a0 := 0) (b := 1) (e := 77) (by decide +kernel) hz6 (fun q => ?_) (fun q => ?_)
        · have H := ht6 q
          refine hw_inc (L' := (jm_st1 (jm_st1 L 7 (0, z4)) 6 (0, l6 + 1))) (c := 1) (b := 6) (e := 0) (by decide +kernel) (get_st1 g6 (by decide) (fun q => tg0 q.2)) rfl ?_
          refine hw_goto (a0 := 0) (b := 0) (e := 22) (by decide +kernel) ?_
          exact H
        · have H := hf6 q
          refine hw_inc (L' := (jm_st1 (jm_st1 L 7 (0, z4)) 5 (0, l5 + 1))) (c := 1) (b := 5) (e := 0) (by decide +kernel) (get_st1 g5 (by decide) (fun q => absurd q.1 (by decide))) rfl ?_
          refine hw_inc (L' := (jm_st1 (jm_st1 (jm_st1 L 7 (0, z4)) 5 (0, l5 + 1)) 6 (0, l6 + 1))) (c := 1) (b := 6) (e := 0) (by decide +kernel) (get_st1 (get_st1 g6 (by decide) (fun q => tg0 q.2)) (by decide) (fun q => absurd q.1 (by decide))) rfl ?_
          refine hw_goto (a0 := 0) (b := 0) (e := 22) (by decide +kernel) ?_
          exact H
theorem sf_163_187_l22 {sc : List Int} {d x : Nat} {Q : Option jm_V → hf_F → Nat → Prop} : ∀ (n : Nat) (φ : hf_F) (L : jm_L) (l1 l2 l3 l4 l5 l6 : Int), jm_get L 0 = some (2, 187) → jm_get L 1 = some (0, l1) → jm_get L 2 = some (0, l2) → jm_get L 3 = some (0, l3) → jm_get L 4 = some (0, l4) → jm_get L 5 = some (0, l5) → jm_get L 6 = some (0, l6) → Inv φ → 256 - l6 < (n : Int) → 0 ≤ l1 → l1 ≤ 5 → 0 ≤ l2 → l2 ≤ 7 → 0 ≤ l5 → l5 ≤ 256 → 0 ≤ l6 → l6 ≤ 256 → l5 ≤ l6 → (∀ (r : Int), 0 ≤ r ∧ r ≤ 256 → F_Outlook_setsTurned_187_l22 n φ l1 l2 l3 l4 l5 l6 = r → Q (some (0, r)) φ x) → hw sc (d + 3) 163 22 L [] φ x Q := by
  intro n
  induction n with
  | zero =>
    intro φ L l1 l2 l3 l4 l5 l6 g0 g1 g2 g3 g4 g5 g6 hI hM b1a b1b b2a b2b b5a b5b b6a b6b c0 hQ
    exfalso
    omega
  | succ n ih =>
    intro φ L l1 l2 l3 l4 l5 l6 g0 g1 g2 g3 g4 g5 g6 hI hM b1a b1b b2a b2b b5a b5b b6a b6b c0 hQ
    refine sf_163_187_v22 g0 g1 g2 g3 g4 g5 g6 ?_
    have e0 := F_Outlook_setsTurned_187_l22_s (φ := φ) (l1 := l1) (l2 := l2) (l3 := l3) (l4 := l4) (l5 := l5) (l6 := l6) n
    have f1 := iv_at (a := 6) (k := 3) (lo := 0) (u := 6) hI (by decide +kernel)
    have f2 := hr_shl1 (φ 6 3)
    have f3 := hr_shl 1 (φ 6 3)
    refine ⟨by unfold hi; omega, by unfold hi; omega, fun q1 => ?_, fun q1 => ?_⟩
    · skip
      have e1a := e0.trans (if_pos q1)
      exact hQ l5 ⟨by omega, by omega⟩ e1a
    · skip
      have e1b := e0.trans (if_neg q1)
      have f4 := hr_shr0 l6 l1
      have f5 := hr_shr l6 l1
      have f6 := hr_and0 (hb_shr l6 l1) 1
      have f7 := hr_and1 (hb_shr l6 l1)
      have f8 := hr_and (hb_shr l6 l1) 1
      refine ⟨by unfold hi; omega, fun q3 => ?_, fun q3 => ?_⟩
      · skip
        have e3a := e1b.trans (if_pos q3)
        exact ih φ (jm_st1 L 6 (0, l6 + 1)) l1 l2 l3 l4 l5 (l6 + 1) (get_st1 g0 (by decide) (fun q => absurd q.1 (by decide))) (get_st1 g1 (by decide) (fun q => absurd q.1 (by decide))) (get_st1 g2 (by decide) (fun q => absurd q.1 (by decide))) (get_st1 g3 (by decide) (fun q => absurd q.1 (by decide))) (get_st1 g4 (by decide) (fun q => absurd q.1 (by decide))) (get_st1 g5 (by decide) (fun q => tg0 q.2)) get_st1e hI (by omega) (by omega) (by omega) (by omega) (by omega) (by omega) (by omega) (by omega) (by omega) (by omega) (fun rr hpχ hEχ => hQ rr hpχ (e3a.trans hEχ))
      · skip
        have e3b := e1b.trans (if_neg q3)
        refine sf_164_187 (φ := φ) hI (by omega) (by omega) (fun z4 hp4 hE4 => ⟨rfl, rfl, z4, rfl, ?_⟩)
        have e4 := e3b.trans (bnp_e hE4)
        have f9 := hr_and0 z4 l3
        have f10 := hr_and z4 l3
        have f11 := hr_n l3
        refine ⟨by unfold hi; omega, fun q5 => ?_, fun q5 => ?_⟩
        · skip
          have e5a := e4.trans (if_pos q5)
          exact ih φ (jm_st1 (jm_st1 L 7 (0, z4)) 6 (0, l6 + 1)) l1 l2 l3 l4 l5 (l6 + 1) (get_st1 (get_st1 g0 (by decide) (fun q => absurd q.1 (by decide))) (by decide) (fun q => absurd q.1 (by decide))) (get_st1 (get_st1 g1 (by decide) (fun q => absurd q.1 (by decide))) (by decide) (fun q => absurd q.1 (by decide))) (get_st1 (get_st1 g2 (by decide) (fun q => absurd q.1 (by decide))) (by decide) (fun q => absurd q.1 (by decide))) (get_st1 (get_st1 g3 (by decide) (fun q => absurd q.1 (by decide))) (by decide) (fun q => absurd q.1 (by decide))) (get_st1 (get_st1 g4 (by decide) (fun q => absurd q.1 (by decide))) (by decide) (fun q => absurd q.1 (by decide))) (get_st1 (get_st1 g5 (by decide) (fun q => absurd q.1 (by decide))) (by decide) (fun q => tg0 q.2)) get_st1e hI (by omega) (by omega) (by omega) (by omega) (by omega) (by omega) (by omega) (by omega) (by omega) (by omega) (fun rr hpχ hEχ => hQ rr hpχ (e5a.trans hEχ))
        · skip
          have e5b := e4.trans (if_neg q5)
          have f12 := hr_or z4 l4
          have f13 := hr_and0 (hb_or z4 l4) l3
          have f14 := hr_and (hb_or z4 l4) l3
          refine ⟨by unfold hi; omega, fun q6 => ?_, fun q6 => ?_⟩
          · skip
            have e6a := e5b.trans (if_pos q6)
            exact ih φ (jm_st1 (jm_st1 L 7 (0, z4)) 6 (0, l6 + 1)) l1 l2 l3 l4 l5 (l6 + 1) (get_st1 (get_st1 g0 (by decide) (fun q => absurd q.1 (by decide))) (by decide) (fun q => absurd q.1 (by decide))) (get_st1 (get_st1 g1 (by decide) (fun q => absurd q.1 (by decide))) (by decide) (fun q => absurd q.1 (by decide))) (get_st1 (get_st1 g2 (by decide) (fun q => absurd q.1 (by decide))) (by decide) (fun q => absurd q.1 (by decide))) (get_st1 (get_st1 g3 (by decide) (fun q => absurd q.1 (by decide))) (by decide) (fun q => absurd q.1 (by decide))) (get_st1 (get_st1 g4 (by decide) (fun q => absurd q.1 (by decide))) (by decide) (fun q => absurd q.1 (by decide))) (get_st1 (get_st1 g5 (by decide) (fun q => absurd q.1 (by decide))) (by decide) (fun q => tg0 q.2)) get_st1e hI (by omega) (by omega) (by omega) (by omega) (by omega) (by omega) (by omega) (by omega) (by omega) (by omega) (fun rr hpχ hEχ => hQ rr hpχ (e6a.trans hEχ))
          · skip
            have e6b := e5b.trans (if_neg q6)
            exact ih φ (jm_st1 (jm_st1 (jm_st1 L 7 (0, z4)) 5 (0, l5 + 1)) 6 (0, l6 + 1)) l1 l2 l3 l4 (l5 + 1) (l6 + 1) (get_st1 (get_st1 (get_st1 g0 (by decide) (fun q => absurd q.1 (by decide))) (by decide) (fun q => absurd q.1 (by decide))) (by decide) (fun q => absurd q.1 (by decide))) (get_st1 (get_st1 (get_st1 g1 (by decide) (fun q => absurd q.1 (by decide))) (by decide) (fun q => absurd q.1 (by decide))) (by decide) (fun q => absurd q.1 (by decide))) (get_st1 (get_st1 (get_st1 g2 (by decide) (fun q => absurd q.1 (by decide))) (by decide) (fun q => absurd q.1 (by decide))) (by decide) (fun q => absurd q.1 (by decide))) (get_st1 (get_st1 (get_st1 g3 (by decide) (fun q => absurd q.1 (by decide))) (by decide) (fun q => absurd q.1 (by decide))) (by decide) (fun q => absurd q.1 (by decide))) (get_st1 (get_st1 (get_st1 g4 (by decide) (fun q => absurd q.1 (by decide))) (by decide) (fun q => tg0 q.2)) (by decide) (fun q => absurd q.1 (by decide))) (get_st1 get_st1e (by decide) (fun q => tg0 q.2)) get_st1e hI (by omega) (by omega) (by omega) (by omega) (by omega) (by omega) (by omega) (by omega) (by omega) (by omega) (fun rr hpχ hEχ => hQ rr hpχ (e6b.trans hEχ))
theorem sf_163_187_v {sc : List Int} {d : Nat} {φ : hf_F} {x : Nat} {Q : Option jm_V → hf_F → Nat → Prop} {v1 v2 : Int}
    (H : hw sc (d + 2) 109 0 [(0, (2, 187)), (1, (0, v2))] [] φ x (fun r ψ1 y1 => y1 = x ∧ φ = ψ1 ∧ (∃ z1 : Int, r = some (0, z1) ∧ (hw sc (d + 2) 108 0 [(0, (2, 17)), (1, (0, v1))] [] φ x (fun r ψ2 y2 => y2 = x ∧ φ = ψ2 ∧ (∃ z2 : Int, r = some (0, z2) ∧ (hw sc (d + 3) 163 22 (jm_st1 (jm_st1 (jm_st1 (jm_st1 [(0, (2, 187)), (1, (0, v1)), (2, (0, v2))] 3 (0, z1)) 4 (0, z2)) 5 (0, 0)) 6 (0, 0)) [] φ x Q))))))) :
    hw sc (d + 3) 163 0 [(0, (2, 187)), (1, (0, v1)), (2, (0, v2))] [] φ x Q := by
  refine hw_ald (b := 0) (e := 0) (by decide +kernel) rfl (by decide) ?_
  refine hw_ld (b := 2) (e := 0) (by decide +kernel) rfl ?_
  refine hr_call (a0 := 19) (b := 109) (e := 2) (nl := 2) (As := [(0, v2)]) (R := []) 187 rfl (by decide +kernel) rfl rfl (Nat.le_of_ble_eq_true rfl) (Nat.le_of_ble_eq_true rfl) ?_
  refine hw_mono H ?_
  rintro r ψ1 y1 ⟨hyx, hψx, z1, hr, H⟩
  subst hyx
  subst hψx
  subst hr
  refine ⟨hne0, ?_⟩
  show hw sc (d + 3) 163 5 [(0, (2, 187)), (1, (0, v1)), (2, (0, v2))] [(0, z1)] φ y1 Q
  refine hw_st (L' := (jm_st1 [(0, (2, 187)), (1, (0, v1)), (2, (0, v2))] 3 (0, z1))) (b := 3) (e := 0) (by decide +kernel) rfl ?_
  refine hw_ald (b := 0) (e := 0) (by decide +kernel) (get_st1 rfl (by decide) (fun q => absurd q.1 (by decide))) (by decide) ?_
  refine hr_gr (w := 17) (b := 9) (e := 1) 187 rfl (by decide +kernel) ?_
  refine hw_ld (b := 1) (e := 0) (by decide +kernel) (get_st1 rfl (by decide) (fun q => absurd q.1 (by decide))) ?_
  refine hr_call (a0 := 14) (b := 108) (e := 2) (nl := 4) (As := [(0, v1)]) (R := []) 17 rfl (by decide +kernel) rfl rfl (Nat.le_of_ble_eq_true rfl) (Nat.le_of_ble_eq_true rfl) ?_
  refine hw_mono H ?_
  rintro r ψ2 y2 ⟨hyx, hψx, z2, hr, H⟩
  subst hyx
  subst hψx
  subst hr
  refine ⟨hne0, ?_⟩
  show hw sc (d + 3) 163 14 (jm_st1 [(0, (2, 187)), (1, (0, v1)), (2, (0, v2))] 3 (0, z1)) [(0, z2)] φ y2 Q
  refine hw_st (L' := (jm_st1 (jm_st1 [(0, (2, 187)), (1, (0, v1)), (2, (0, v2))] 3 (0, z1)) 4 (0, z2))) (b := 4) (e := 1) (by decide +kernel) rfl ?_
  refine hw_k (c := 0) (b := 0) (e := 1) (by decide +kernel) ?_
  refine hw_st (L' := (jm_st1 (jm_st1 (jm_st1 [(0, (2, 187)), (1, (0, v1)), (2, (0, v2))] 3 (0, z1)) 4 (0, z2)) 5 (0, 0))) (b := 5) (e := 1) (by decide +kernel) rfl ?_
  refine hw_k (c := 0) (b := 0) (e := 1) (by decide +kernel) ?_
  refine hw_st (L' := (jm_st1 (jm_st1 (jm_st1 (jm_st1 [(0, (2, 187)), (1, (0, v1)), (2, (0, v2))] 3 (0, z1)) 4 (0, z2)) 5 (0, 0)) 6 (0, 0))) (b := 6) (e := 1) (by decide +kernel) rfl ?_
  exact H
theorem sf_163_187 {sc : List Int} {d : Nat} {φ : hf_F} {x : Nat} {Q : Option jm_V → hf_F → Nat → Prop} {v1 v2 : Int} (hI : Inv φ) (h1a : 0 ≤ v1) (h1b : v1 ≤ 5) (h2a : 0 ≤ v2) (h2b : v2 ≤ 7) (hQ : ∀ (r : Int), 0 ≤ r ∧ r ≤ 256 → F_Outlook_setsTurned_187 φ v1 v2 = r → Q (some (0, r)) φ x) : hw sc (d + 3) 163 0 [(0, (2, 187)), (1, (0, v1)), (2, (0, v2))] [] φ x Q := by
  apply sf_163_187_v
  have e0 : F_Outlook_setsTurned_187 φ v1 v2 = _ := rfl
  refine sf_109_187 (φ := φ) hI (by omega) (by omega) (fun z1 hp1 hE1 => ⟨rfl, rfl, z1, rfl, ?_⟩)
  have e1 := e0.trans (bnp_e hE1)
  refine sf_108_17 (φ := φ) hI (by omega) (by omega) (fun z2 hp2 hE2 => ⟨rfl, rfl, z2, rfl, ?_⟩)
  have e2 := e1.trans (bnp_e hE2)
  exact sf_163_187_l22 ((256 - 0 : Int).toNat + 1) φ (jm_st1 (jm_st1 (jm_st1 (jm_st1 [(0, (2, 187)), (1, (0, v1)), (2, (0, v2))] 3 (0, z1)) 4 (0, z2)) 5 (0, 0)) 6 (0, 0)) v1 v2 z1 z2 0 0 (get_st1 (get_st1 (get_st1 (get_st1 rfl (by decide) (fun q => absurd q.1 (by decide))) (by decide) (fun q => absurd q.1 (by decide))) (by decide) (fun q => absurd q.1 (by decide))) (by decide) (fun q => absurd q.1 (by decide))) (get_st1 (get_st1 (get_st1 (get_st1 rfl (by decide) (fun q => absurd q.1 (by decide))) (by decide) (fun q => absurd q.1 (by decide))) (by decide) (fun q => absurd q.1 (by decide))) (by decide) (fun q => absurd q.1 (by decide))) (get_st1 (get_st1 (get_st1 (get_st1 rfl (by decide) (fun q => tg0 q.2)) (by decide) (fun q => absurd q.1 (by decide))) (by decide) (fun q => absurd q.1 (by decide))) (by decide) (fun q => absurd q.1 (by decide))) (get_st1 (get_st1 (get_st1 get_st1e (by decide) (fun q => tg0 q.2)) (by decide) (fun q => absurd q.1 (by decide))) (by decide) (fun q => absurd q.1 (by decide))) (get_st1 (get_st1 get_st1e (by decide) (fun q => tg0 q.2)) (by decide) (fun q => absurd q.1 (by decide))) (get_st1 get_st1e (by decide) (fun q => tg0 q.2)) get_st1e hI (by omega) (by omega) (by omega) (by omega) (by omega) (by omega) (by omega) (by omega) (by omega) (by omega) (fun rr hpχ hEχ => hQ rr hpχ (e2.trans hEχ))
theorem sf_165_v8 {sc : List Int} {d : Nat} {φ : hf_F} {x : Nat} {Q : Option jm_V → hf_F → Nat → Prop} {L : jm_L} {l0 l1 l2 l3 l4 l5 : Int} (g0 : jm_get L 0 = some (0, l0)) (g1 : jm_get L 1 = some (0, l1)) (g2 : jm_get L 2 = some (0, l2)) (g3 : jm_get L 3 = some (0, l3)) (g4 : jm_get L 4 = some (0, l4)) (g5 : jm_get L 5 = some (0, l5))
    (H : hi l5 ∧ hi 64 ∧ (64 ≤ l5 → (¬ (jm_n l3) = 0 → hi l2 ∧ (¬ l2 = 0 → ¬ jm_n l3 = 0 ∧ (Q (some (0, (jm_n l1).tdiv (jm_n l3))) φ x)) ∧ (¬ (¬ l2 = 0) → ¬ jm_n l3 = 0 ∧ (Q (some (0, (jm_n l0).tdiv (jm_n l3))) φ x))) ∧ (¬ (¬ (jm_n l3) = 0) → hi l2 ∧ (¬ l2 = 0 → Q (some (0, 1)) φ x) ∧ (¬ (¬ l2 = 0) → Q (some (0, 0)) φ x))) ∧ (¬ 64 ≤ l5 → ((jm_n l4) = 0 → (¬ (jm_n l3) = 0 → hi l2 ∧ (¬ l2 = 0 → ¬ jm_n l3 = 0 ∧ (Q (some (0, (jm_n l1).tdiv (jm_n l3))) φ x)) ∧ (¬ (¬ l2 = 0) → ¬ jm_n l3 = 0 ∧ (Q (some (0, (jm_n l0).tdiv (jm_n l3))) φ x))) ∧ (¬ (¬ (jm_n l3) = 0) → hi l2 ∧ (¬ l2 = 0 → Q (some (0, 1)) φ x) ∧ (¬ (¬ l2 = 0) → Q (some (0, 0)) φ x))) ∧ (¬ (jm_n l4) = 0 → ¬ jm_n l4 = 0 ∧ (hw sc d 165 8 (jm_st1 (jm_st1 (jm_st1 (jm_st1 L 6 (0, (jm_n l3).tmod (jm_n l4))) 3 (0, l4)) 4 (0, (jm_n l3).tmod (jm_n l4))) 5 (0, l5 + 1)) [] φ x Q)))) :
    hw sc d 165 8 L [] φ x Q := by
  refine hw_ld (b := 5) (e := 1) (by decide +kernel) g5 ?_
  refine hw_k (c := 64) (b := 1) (e := 2) (by decide +kernel) ?_
  obtain ⟨hz1, hy1, ht1, hf1⟩ := H
  refine hw_if2 (a0 := 0) (b := 3) (e := 39) (by decide +kernel) hz1 hy1 (fun q => ?_) (fun q => ?_)
  · have H := ht1 q
    refine hw_ld (b := 3) (e := 0) (by decide +kernel) g3 ?_
    obtain ⟨ht2, hf2⟩ := H
    refine hw_ifn (a0 := 0) (b := 1) (e := 53) (by decide +kernel) (fun q => ?_) (fun q => ?_)
    · have H := ht2 q
      refine hw_ld (b := 2) (e := 0) (by decide +kernel) g2 ?_
      obtain ⟨hz3, ht3, hf3⟩ := H
      refine hw_if (a0 := 0) (b := 1) (e := 61) (by decide +kernel) hz3 (fun q => ?_) (fun q => ?_)
      · have H := ht3 q
        refine hw_ld (b := 1) (e := 0) (by decide +kernel) g1 ?_
        refine hw_ld (b := 3) (e := 0) (by decide +kernel) g3 ?_
        obtain ⟨hn4, H⟩ := H
        refine hw_bin (w := (jm_n l1).tdiv (jm_n l3)) (a0 := 0) (b := 9) (e := 0) (by decide +kernel) (hb_divn hn4) ?_
        exact hw_ret (a0 := 0) (e := 0) (by decide +kernel) (Or.inl rfl) H
      · have H := hf3 q
        refine hw_ld (b := 0) (e := 0) (by decide +kernel) g0 ?_
        refine hw_goto (a0 := 0) (b := 0) (e := 62) (by decide +kernel) ?_
        refine hw_ld (b := 3) (e := 0) (by decide +kernel) g3 ?_
        obtain ⟨hn6, H⟩ := H
        refine hw_bin (w := (jm_n l0).tdiv (jm_n l3)) (a0 := 0) (b := 9) (e := 0) (by decide +kernel) (hb_divn hn6) ?_
        exact hw_ret (a0 := 0) (e := 0) (by decide +kernel) (Or.inl rfl) H
    · have H := hf2 q
      refine hw_ld (b := 2) (e := 0) (by decide +kernel) g2 ?_
      obtain ⟨hz8, ht8, hf8⟩ := H
      refine hw_if (a0 := 0) (b := 1) (e := 51) (by decide +kernel) hz8 (fun q => ?_) (fun q => ?_)
      · have H := ht8 q
        refine hw_k (c := 1) (b := 0) (e := 1) (by decide +kernel) ?_
        exact hw_ret (a0 := 0) (e := 0) (by decide +kernel) (Or.inl rfl) H
      · have H := hf8 q
        refine hw_k (c := 0) (b := 0) (e := 1) (by decide +kernel) ?_
        refine hw_goto (a0 := 0) (b := 0) (e := 52) (by decide +kernel) ?_
        exact hw_ret (a0 := 0) (e := 0) (by decide +kernel) (Or.inl rfl) H
  · have H := hf1 q
    refine hw_ld (b := 4) (e := 1) (by decide +kernel) g4 ?_
    obtain ⟨ht11, hf11⟩ := H
    refine hw_ifn (a0 := 0) (b := 0) (e := 39) (by decide +kernel) (fun q => ?_) (fun q => ?_)
    · have H := ht11 q
      refine hw_ld (b := 3) (e := 0) (by decide +kernel) g3 ?_
      obtain ⟨ht12, hf12⟩ := H
      refine hw_ifn (a0 := 0) (b := 1) (e := 53) (by decide +kernel) (fun q => ?_) (fun q => ?_)
      · have H := ht12 q
        refine hw_ld (b := 2) (e := 0) (by decide +kernel) g2 ?_
        obtain ⟨hz13, ht13, hf13⟩ := H
        refine hw_if (a0 := 0) (b := 1) (e := 61) (by decide +kernel) hz13 (fun q => ?_) (fun q => ?_)
        · have H := ht13 q
          refine hw_ld (b := 1) (e := 0) (by decide +kernel) g1 ?_
          refine hw_ld (b := 3) (e := 0) (by decide +kernel) g3 ?_
          obtain ⟨hn14, H⟩ := H
          refine hw_bin (w := (jm_n l1).tdiv (jm_n l3)) (a0 := 0) (b := 9) (e := 0) (by decide +kernel) (hb_divn hn14) ?_
          exact hw_ret (a0 := 0) (e := 0) (by decide +kernel) (Or.inl rfl) H
        · have H := hf13 q
          refine hw_ld (b := 0) (e := 0) (by decide +kernel) g0 ?_
          refine hw_goto (a0 := 0) (b := 0) (e := 62) (by decide +kernel) ?_
          refine hw_ld (b := 3) (e := 0) (by decide +kernel) g3 ?_
          obtain ⟨hn16, H⟩ := H
          refine hw_bin (w := (jm_n l0).tdiv (jm_n l3)) (a0 := 0) (b := 9) (e := 0) (by decide +kernel) (hb_divn hn16) ?_
          exact hw_ret (a0 := 0) (e := 0) (by decide +kernel) (Or.inl rfl) H
      · have H := hf12 q
        refine hw_ld (b := 2) (e := 0) (by decide +kernel) g2 ?_
        obtain ⟨hz18, ht18, hf18⟩ := H
        refine hw_if (a0 := 0) (b := 1) (e := 51) (by decide +kernel) hz18 (fun q => ?_) (fun q => ?_)
        · have H := ht18 q
          refine hw_k (c := 1) (b := 0) (e := 1) (by decide +kernel) ?_
          exact hw_ret (a0 := 0) (e := 0) (by decide +kernel) (Or.inl rfl) H
        · have H := hf18 q
          refine hw_k (c := 0) (b := 0) (e := 1) (by decide +kernel) ?_
          refine hw_goto (a0 := 0) (b := 0) (e := 52) (by decide +kernel) ?_
          exact hw_ret (a0 := 0) (e := 0) (by decide +kernel) (Or.inl rfl) H
    · have H := hf11 q
      refine hw_ld (b := 3) (e := 0) (by decide +kernel) g3 ?_
      refine hw_ld (b := 4) (e := 1) (by decide +kernel) g4 ?_
      obtain ⟨hn21, H⟩ := H
      refine hw_bin (w := (jm_n l3).tmod (jm_n l4)) (a0 := 0) (b := 10) (e := 0) (by decide +kernel) (hb_remn hn21) ?_
      refine hw_st (L' := (jm_st1 L 6 (0, (jm_n l3).tmod (jm_n l4)))) (b := 6) (e := 1) (by decide +kernel) rfl ?_
      refine hw_ld (b := 4) (e := 1) (by decide +kernel) (get_st1 g4 (by decide) (fun q => absurd q.1 (by decide))) ?_
      refine hw_st (L' := (jm_st1 (jm_st1 L 6 (0, (jm_n l3).tmod (jm_n l4))) 3 (0, l4))) (b := 3) (e := 0) (by decide +kernel) rfl ?_
      refine hw_ld (b := 6) (e := 1) (by decide +kernel) (get_st1 get_st1e (by decide) (fun q => absurd q.1 (by decide))) ?_
      refine hw_st (L' := (jm_st1 (jm_st1 (jm_st1 L 6 (0, (jm_n l3).tmod (jm_n l4))) 3 (0, l4)) 4 (0, (jm_n l3).tmod (jm_n l4)))) (b := 4) (e := 1) (by decide +kernel) rfl ?_
      refine hw_inc (L' := (jm_st1 (jm_st1 (jm_st1 (jm_st1 L 6 (0, (jm_n l3).tmod (jm_n l4))) 3 (0, l4)) 4 (0, (jm_n l3).tmod (jm_n l4))) 5 (0, l5 + 1))) (c := 1) (b := 5) (e := 0) (by decide +kernel) (get_st1 (get_st1 (get_st1 g5 (by decide) (fun q => tg0 q.2)) (by decide) (fun q => absurd q.1 (by decide))) (by decide) (fun q => absurd q.1 (by decide))) rfl ?_
      refine hw_goto (a0 := 0) (b := 0) (e := 8) (by decide +kernel) ?_
      exact H
theorem sf_165_l8 {sc : List Int} {d x : Nat} {Q : Option jm_V → hf_F → Nat → Prop} : ∀ (n : Nat) (φ : hf_F) (L : jm_L) (l0 l1 l2 l3 l4 l5 : Int), jm_get L 0 = some (0, l0) → jm_get L 1 = some (0, l1) → jm_get L 2 = some (0, l2) → jm_get L 3 = some (0, l3) → jm_get L 4 = some (0, l4) → jm_get L 5 = some (0, l5) → Inv φ → 64 - l5 < (n : Int) → 0 ≤ l2 → l2 ≤ 1 → 0 ≤ l5 → l5 ≤ 64 → (∀ (r : Int), True → F_RideLaws_inLeastTerms_l8 n φ l0 l1 l2 l3 l4 l5 = r → Q (some (0, r)) φ x) → hw sc d 165 8 L [] φ x Q := by
  intro n
  induction n with
  | zero =>
    intro φ L l0 l1 l2 l3 l4 l5 g0 g1 g2 g3 g4 g5 hI hM b2a b2b b5a b5b hQ
    exfalso
    omega
  | succ n ih =>
    intro φ L l0 l1 l2 l3 l4 l5 g0 g1 g2 g3 g4 g5 hI hM b2a b2b b5a b5b hQ
    refine sf_165_v8 g0 g1 g2 g3 g4 g5 ?_
    have e0 := F_RideLaws_inLeastTerms_l8_s (φ := φ) (l0 := l0) (l1 := l1) (l2 := l2) (l3 := l3) (l4 := l4) (l5 := l5) n
    refine ⟨by unfold hi; omega, by unfold hi; omega, fun q1 => ?_, fun q1 => ?_⟩
    · skip
      have e1a := e0.trans (if_pos q1)
      have f1 := hr_n l3
      refine ⟨fun q2 => ?_, fun q2 => ?_⟩
      · skip
        have e2a := e1a.trans (if_pos q2)
        refine ⟨by unfold hi; omega, fun q3 => ?_, fun q3 => ?_⟩
        · skip
          have e3a := e2a.trans (if_pos q3)
          have f2 := hr_n l1
          refine ⟨by omega, ?_⟩
          exact hQ ((jm_n l1).tdiv (jm_n l3)) trivial e3a
        · skip
          have e3b := e2a.trans (if_neg q3)
          have f3 := hr_n l0
          refine ⟨by omega, ?_⟩
          exact hQ ((jm_n l0).tdiv (jm_n l3)) trivial e3b
      · skip
        have e2b := e1a.trans (if_neg q2)
        refine ⟨by unfold hi; omega, fun q8 => ?_, fun q8 => ?_⟩
        · skip
          have e8a := e2b.trans (if_pos q8)
          exact hQ 1 trivial e8a
        · skip
          have e8b := e2b.trans (if_neg q8)
          exact hQ 0 trivial e8b
    · skip
      have e1b := e0.trans (if_neg q1)
      have f4 := hr_n l4
      refine ⟨fun q11 => ?_, fun q11 => ?_⟩
      · skip
        have e11a := e1b.trans (if_pos q11)
        have f5 := hr_n l3
        refine ⟨fun q12 => ?_, fun q12 => ?_⟩
        · skip
          have e12a := e11a.trans (if_pos q12)
          refine ⟨by unfold hi; omega, fun q13 => ?_, fun q13 => ?_⟩
          · skip
            have e13a := e12a.trans (if_pos q13)
            have f6 := hr_n l1
            refine ⟨by omega, ?_⟩
            exact hQ ((jm_n l1).tdiv (jm_n l3)) trivial e13a
          · skip
            have e13b := e12a.trans (if_neg q13)
            have f7 := hr_n l0
            refine ⟨by omega, ?_⟩
            exact hQ ((jm_n l0).tdiv (jm_n l3)) trivial e13b
        · skip
          have e12b := e11a.trans (if_neg q12)
          refine ⟨by unfold hi; omega, fun q18 => ?_, fun q18 => ?_⟩
          · skip
            have e18a := e12b.trans (if_pos q18)
            exact hQ 1 trivial e18a
          · skip
            have e18b := e12b.trans (if_neg q18)
            exact hQ 0 trivial e18b
      · skip
        have e11b := e1b.trans (if_neg q11)
        have f8 := hr_n l3
        refine ⟨by omega, ?_⟩
        have f9 := hr_tmodn l3 l4 (by omega)
        exact ih φ (jm_st1 (jm_st1 (jm_st1 (jm_st1 L 6 (0, (jm_n l3).tmod (jm_n l4))) 3 (0, l4)) 4 (0, (jm_n l3).tmod (jm_n l4))) 5 (0, l5 + 1)) l0 l1 l2 l4 ((jm_n l3).tmod (jm_n l4)) (l5 + 1) (get_st1 (get_st1 (get_st1 (get_st1 g0 (by decide) (fun q => absurd q.1 (by decide))) (by decide) (fun q => absurd q.1 (by decide))) (by decide) (fun q => absurd q.1 (by decide))) (by decide) (fun q => absurd q.1 (by decide))) (get_st1 (get_st1 (get_st1 (get_st1 g1 (by decide) (fun q => absurd q.1 (by decide))) (by decide) (fun q => absurd q.1 (by decide))) (by decide) (fun q => absurd q.1 (by decide))) (by decide) (fun q => absurd q.1 (by decide))) (get_st1 (get_st1 (get_st1 (get_st1 g2 (by decide) (fun q => absurd q.1 (by decide))) (by decide) (fun q => tg0 q.2)) (by decide) (fun q => absurd q.1 (by decide))) (by decide) (fun q => absurd q.1 (by decide))) (get_st1 (get_st1 get_st1e (by decide) (fun q => tg0 q.2)) (by decide) (fun q => absurd q.1 (by decide))) (get_st1 get_st1e (by decide) (fun q => tg0 q.2)) get_st1e hI (by omega) (by omega) (by omega) (by omega) (by omega) (fun rr hpχ hEχ => hQ rr hpχ (e11b.trans hEχ))
theorem sf_165_v {sc : List Int} {d : Nat} {φ : hf_F} {x : Nat} {Q : Option jm_V → hf_F → Nat → Prop} {v0 v1 v2 : Int}
    (H : hw sc d 165 8 (jm_st1 (jm_st1 (jm_st1 [(0, (0, v0)), (1, (0, v1)), (2, (0, v2))] 3 (0, v1)) 4 (0, v0)) 5 (0, 0)) [] φ x Q) :
    hw sc d 165 0 [(0, (0, v0)), (1, (0, v1)), (2, (0, v2))] [] φ x Q := by
  refine hw_ld (b := 1) (e := 0) (by decide +kernel) rfl ?_
  refine hw_st (L' := (jm_st1 [(0, (0, v0)), (1, (0, v1)), (2, (0, v2))] 3 (0, v1))) (b := 3) (e := 0) (by decide +kernel) rfl ?_
  refine hw_ld (b := 0) (e := 0) (by decide +kernel) (get_st1 rfl (by decide) (fun q => absurd q.1 (by decide))) ?_
  refine hw_st (L' := (jm_st1 (jm_st1 [(0, (0, v0)), (1, (0, v1)), (2, (0, v2))] 3 (0, v1)) 4 (0, v0))) (b := 4) (e := 1) (by decide +kernel) rfl ?_
  refine hw_k (c := 0) (b := 0) (e := 1) (by decide +kernel) ?_
  refine hw_st (L' := (jm_st1 (jm_st1 (jm_st1 [(0, (0, v0)), (1, (0, v1)), (2, (0, v2))] 3 (0, v1)) 4 (0, v0)) 5 (0, 0))) (b := 5) (e := 1) (by decide +kernel) rfl ?_
  exact H
theorem sf_165 {sc : List Int} {d : Nat} {φ : hf_F} {x : Nat} {Q : Option jm_V → hf_F → Nat → Prop} {v0 v1 v2 : Int} (hI : Inv φ) (h2a : 0 ≤ v2) (h2b : v2 ≤ 1) (hQ : ∀ (r : Int), True → F_RideLaws_inLeastTerms φ v0 v1 v2 = r → Q (some (0, r)) φ x) : hw sc d 165 0 [(0, (0, v0)), (1, (0, v1)), (2, (0, v2))] [] φ x Q := by
  apply sf_165_v
  have e0 : F_RideLaws_inLeastTerms φ v0 v1 v2 = _ := rfl
  exact sf_165_l8 ((64 - 0 : Int).toNat + 1) φ (jm_st1 (jm_st1 (jm_st1 [(0, (0, v0)), (1, (0, v1)), (2, (0, v2))] 3 (0, v1)) 4 (0, v0)) 5 (0, 0)) v0 v1 v2 v1 v0 0 (get_st1 (get_st1 (get_st1 rfl (by decide) (fun q => absurd q.1 (by decide))) (by decide) (fun q => absurd q.1 (by decide))) (by decide) (fun q => absurd q.1 (by decide))) (get_st1 (get_st1 (get_st1 rfl (by decide) (fun q => absurd q.1 (by decide))) (by decide) (fun q => absurd q.1 (by decide))) (by decide) (fun q => absurd q.1 (by decide))) (get_st1 (get_st1 (get_st1 rfl (by decide) (fun q => tg0 q.2)) (by decide) (fun q => absurd q.1 (by decide))) (by decide) (fun q => absurd q.1 (by decide))) (get_st1 (get_st1 get_st1e (by decide) (fun q => tg0 q.2)) (by decide) (fun q => absurd q.1 (by decide))) (get_st1 get_st1e (by decide) (fun q => tg0 q.2)) get_st1e hI (by omega) (by omega) (by omega) (by omega) (by omega) (fun rr hpχ hEχ => hQ rr hpχ (e0.trans hEχ))
theorem sf_162_0_v {sc : List Int} {d : Nat} {φ : hf_F} {x : Nat} {Q : Option jm_V → hf_F → Nat → Prop} {v1 v2 v3 : Int}
    (H : hw sc (d + 3) 70 0 [(0, (2, 0)), (1, (0, 3)), (2, (0, v1))] [] φ x (fun r ψ1 y1 => y1 = x ∧ φ = ψ1 ∧ (∃ z1 : Int, r = some (0, z1) ∧ (hi z1 ∧ (z1 = 0 → 10 ≤ (d + 4) ∧ Q (some (9, 0)) φ (x + 1)) ∧ (¬ z1 = 0 → hw sc (d + 3) 70 0 [(0, (2, 0)), (1, (0, 4)), (2, (0, v2))] [] φ x (fun r ψ4 y4 => y4 = x ∧ φ = ψ4 ∧ (∃ z4 : Int, r = some (0, z4) ∧ (hi z4 ∧ (z4 = 0 → 10 ≤ (d + 4) ∧ Q (some (9, 0)) φ (x + 1)) ∧ (¬ z4 = 0 → hi v3 ∧ (v3 < 0 → 10 ≤ (d + 4) ∧ Q (some (9, 0)) φ (x + 1)) ∧ (¬ v3 < 0 → hi v3 ∧ hi 1 ∧ (v3 ≤ 1 → hw sc (d + 3) 163 0 [(0, (2, 187)), (1, (0, v1)), (2, (0, v2))] [] φ x (fun r ψ10 y10 => y10 = x ∧ φ = ψ10 ∧ (∃ z10 : Int, r = some (0, z10) ∧ (hw sc (d + 3) 165 0 [(0, (0, z10)), (1, (0, hb_shl 1 ((φ 6 3) - 1))), (2, (0, v3))] [] φ x (fun r ψ11 y11 => y11 = x ∧ φ = ψ11 ∧ (∃ z11 : Int, r = some (0, z11) ∧ (Q (some (0, z11)) φ x))))))) ∧ (¬ v3 ≤ 1 → 10 ≤ (d + 4) ∧ Q (some (9, 0)) φ (x + 1)))))))))))) :
    hw sc (d + 4) 162 0 [(0, (2, 0)), (1, (0, v1)), (2, (0, v2)), (3, (0, v3))] [] φ x Q := by
  refine hw_ald (b := 0) (e := 0) (by decide +kernel) rfl (by decide) ?_
  refine hw_k (c := 3) (b := 0) (e := 1) (by decide +kernel) ?_
  refine hw_ld (b := 1) (e := 0) (by decide +kernel) rfl ?_
  refine hr_call (a0 := 10) (b := 70) (e := 3) (nl := 3) (As := [(0, 3), (0, v1)]) (R := []) 0 rfl (by decide +kernel) rfl rfl (Nat.le_of_ble_eq_true rfl) (Nat.le_of_ble_eq_true rfl) ?_
  refine hw_mono H ?_
  rintro r ψ1 y1 ⟨hyx, hψx, z1, hr, H⟩
  subst hyx
  subst hψx
  subst hr
  refine ⟨hne0, ?_⟩
  show hw sc (d + 4) 162 6 [(0, (2, 0)), (1, (0, v1)), (2, (0, v2)), (3, (0, v3))] [(0, z1)] φ y1 Q
  obtain ⟨hz2, ht2, hf2⟩ := H
  refine hw_if (a0 := 0) (b := 0) (e := 27) (by decide +kernel) hz2 (fun q => ?_) (fun q => ?_)
  · have H := ht2 q
    exact hw_thr (a0 := 0) (b := 6) (e := 1) (by decide +kernel) H.1 (Nat.le_of_ble_eq_true rfl) H.2
  · have H := hf2 q
    refine hw_ald (b := 0) (e := 0) (by decide +kernel) rfl (by decide) ?_
    refine hw_k (c := 4) (b := 0) (e := 1) (by decide +kernel) ?_
    refine hw_ld (b := 2) (e := 0) (by decide +kernel) rfl ?_
    refine hr_call (a0 := 10) (b := 70) (e := 3) (nl := 3) (As := [(0, 4), (0, v2)]) (R := []) 0 rfl (by decide +kernel) rfl rfl (Nat.le_of_ble_eq_true rfl) (Nat.le_of_ble_eq_true rfl) ?_
    refine hw_mono H ?_
    rintro r ψ4 y4 ⟨hyx, hψx, z4, hr, H⟩
    subst hyx
    subst hψx
    subst hr
    refine ⟨hne0, ?_⟩
    show hw sc (d + 4) 162 15 [(0, (2, 0)), (1, (0, v1)), (2, (0, v2)), (3, (0, v3))] [(0, z4)] φ y4 Q
    obtain ⟨hz5, ht5, hf5⟩ := H
    refine hw_if (a0 := 0) (b := 0) (e := 27) (by decide +kernel) hz5 (fun q => ?_) (fun q => ?_)
    · have H := ht5 q
      exact hw_thr (a0 := 0) (b := 6) (e := 1) (by decide +kernel) H.1 (Nat.le_of_ble_eq_true rfl) H.2
    · have H := hf5 q
      refine hw_ld (b := 3) (e := 0) (by decide +kernel) rfl ?_
      obtain ⟨hz7, ht7, hf7⟩ := H
      refine hw_if (a0 := 0) (b := 2) (e := 27) (by decide +kernel) hz7 (fun q => ?_) (fun q => ?_)
      · have H := ht7 q
        exact hw_thr (a0 := 0) (b := 6) (e := 1) (by decide +kernel) H.1 (Nat.le_of_ble_eq_true rfl) H.2
      · have H := hf7 q
        refine hw_ld (b := 3) (e := 0) (by decide +kernel) rfl ?_
        refine hw_k (c := 1) (b := 0) (e := 1) (by decide +kernel) ?_
        obtain ⟨hz9, hy9, ht9, hf9⟩ := H
        refine hw_if2 (a0 := 0) (b := 5) (e := 38) (by decide +kernel) hz9 hy9 (fun q => ?_) (fun q => ?_)
        · have H := ht9 q
          refine hw_ald (b := 0) (e := 0) (by decide +kernel) rfl (by decide) ?_
          refine hr_gr (w := 187) (b := 0) (e := 8) 0 rfl (by decide +kernel) ?_
          refine hw_ld (b := 1) (e := 0) (by decide +kernel) rfl ?_
          refine hw_ld (b := 2) (e := 0) (by decide +kernel) rfl ?_
          refine hr_call (a0 := 19) (b := 163) (e := 3) (nl := 8) (As := [(0, v1), (0, v2)]) (R := []) 187 rfl (by decide +kernel) rfl rfl (Nat.le_of_ble_eq_true rfl) (Nat.le_of_ble_eq_true rfl) ?_
          refine hw_mono H ?_
          rintro r ψ10 y10 ⟨hyx, hψx, z10, hr, H⟩
          subst hyx
          subst hψx
          subst hr
          refine ⟨hne0, ?_⟩
          show hw sc (d + 4) 162 47 [(0, (2, 0)), (1, (0, v1)), (2, (0, v2)), (3, (0, v3))] [(0, z10)] φ y10 Q
          refine hw_k (c := 1) (b := 0) (e := 1) (by decide +kernel) ?_
          refine hw_ald (b := 0) (e := 0) (by decide +kernel) rfl (by decide) ?_
          refine hr_gr (w := 4) (b := 0) (e := 1) 0 rfl (by decide +kernel) ?_
          refine hr_gr (w := 5) (b := 2) (e := 0) 4 rfl (by decide +kernel) ?_
          refine hr_gr (w := 6) (b := 3) (e := 0) 5 rfl (by decide +kernel) ?_
          refine hw_k (c := 3) (b := 0) (e := 1) (by decide +kernel) ?_
          refine hr_al (b := 0) (a0 := 0) (e := 0) (n := 5) (w := φ 6 3) 6 rfl (by decide +kernel) (by decide) (by decide) (by decide) rfl ?_
          refine hw_k (c := 1) (b := 0) (e := 1) (by decide +kernel) ?_
          refine hw_bin (w := (φ 6 3) - 1) (a0 := 0) (b := 1) (e := 0) (by decide +kernel) rfl ?_
          refine hw_bin (w := hb_shl 1 ((φ 6 3) - 1)) (a0 := 0) (b := 6) (e := 0) (by decide +kernel) rfl ?_
          refine hw_ld (b := 3) (e := 0) (by decide +kernel) rfl ?_
          refine hr_calls (b := 165) (e := 3) (nl := 7) (As := [(0, z10), (0, hb_shl 1 ((φ 6 3) - 1)), (0, v3)]) (R := []) (by decide +kernel) rfl rfl (Nat.le_of_ble_eq_true rfl) (Nat.le_of_ble_eq_true rfl) ?_
          refine hw_mono H ?_
          rintro r ψ11 y11 ⟨hyx, hψx, z11, hr, H⟩
          subst hyx
          subst hψx
          subst hr
          refine ⟨hne0, ?_⟩
          show hw sc (d + 4) 162 67 [(0, (2, 0)), (1, (0, v1)), (2, (0, v2)), (3, (0, v3))] [(0, z11)] φ y11 Q
          exact hw_ret (a0 := 0) (e := 0) (by decide +kernel) (Or.inl rfl) H
        · have H := hf9 q
          exact hw_thr (a0 := 0) (b := 6) (e := 1) (by decide +kernel) H.1 (Nat.le_of_ble_eq_true rfl) H.2
theorem sf_162_0 {sc : List Int} {d : Nat} {φ : hf_F} {x : Nat} {Q : Option jm_V → hf_F → Nat → Prop} {v1 v2 v3 : Int} (hI : Inv φ) (h1a : (-2147483648 : Int) ≤ v1) (h1b : v1 ≤ 2147483647) (h2a : (-2147483648 : Int) ≤ v2) (h2b : v2 ≤ 2147483647) (h3a : (-2147483648 : Int) ≤ v3) (h3b : v3 ≤ 2147483647) (hd : 10 ≤ (d + 4)) (hT : ∀ ψ : hf_F, Inv ψ → Fr [] φ ψ → F_RideLaws_power_0 φ v1 v2 v3 = none → Q (some (9, 0)) ψ (x + 1)) (hQ : ∀ (r : Int), True → F_RideLaws_power_0 φ v1 v2 v3 = some r → Q (some (0, r)) φ x) : hw sc (d + 4) 162 0 [(0, (2, 0)), (1, (0, v1)), (2, (0, v2)), (3, (0, v3))] [] φ x Q := by
  apply sf_162_0_v
  have e0 : F_RideLaws_power_0 φ v1 v2 v3 = _ := rfl
  refine sf_70_0_k1_3 (φ := φ) hI (by omega) (by omega) (fun z1 hp1 hE1 => ⟨rfl, rfl, z1, rfl, ?_⟩)
  have e1 := e0.trans (bnp_e hE1)
  have f1 := iv_at (a := 6) (k := 3) (lo := 0) (u := 6) hI (by decide +kernel)
  refine ⟨by unfold hi; omega, fun q2 => ?_, fun q2 => ?_⟩
  · skip
    have e2a := e1.trans (if_pos q2)
    exact ⟨hd, hT φ hI (fr_rf) e2a⟩
  · skip
    have e2b := e1.trans (if_neg q2)
    refine sf_70_0_k1_4 (φ := φ) hI (by omega) (by omega) (fun z4 hp4 hE4 => ⟨rfl, rfl, z4, rfl, ?_⟩)
    have e4 := e2b.trans (bnp_e hE4)
    have f2 := iv_at (a := 6) (k := 4) (lo := 0) (u := 8) hI (by decide +kernel)
    refine ⟨by unfold hi; omega, fun q5 => ?_, fun q5 => ?_⟩
    · skip
      have e5a := e4.trans (if_pos q5)
      exact ⟨hd, hT φ hI (fr_rf) e5a⟩
    · skip
      have e5b := e4.trans (if_neg q5)
      refine ⟨by unfold hi; omega, fun q7 => ?_, fun q7 => ?_⟩
      · skip
        have e7a := e5b.trans (if_pos q7)
        exact ⟨hd, hT φ hI (fr_rf) e7a⟩
      · skip
        have e7b := e5b.trans (if_neg q7)
        refine ⟨by unfold hi; omega, by unfold hi; omega, fun q9 => ?_, fun q9 => ?_⟩
        · skip
          have e9a := e7b.trans (if_pos q9)
          refine sf_163_187 (φ := φ) hI (by omega) (by omega) (by omega) (by omega) (fun z10 hp10 hE10 => ⟨rfl, rfl, z10, rfl, ?_⟩)
          have e10 := e9a.trans (bnp_e hE10)
          have f3 := hr_shl1 ((φ 6 3) - 1)
          have f4 := hr_shl 1 ((φ 6 3) - 1)
          refine sf_165 (φ := φ) hI (by omega) (by omega) (fun z11 hp11 hE11 => ⟨rfl, rfl, z11, rfl, ?_⟩)
          have e11 := e10.trans (bnp_e hE11)
          exact hQ z11 trivial e11
        · skip
          have e9b := e7b.trans (if_neg q9)
          exact ⟨hd, hT φ hI (fr_rf) e9b⟩
theorem sf_112_v {sc : List Int} {d : Nat} {φ : hf_F} {x : Nat} {Q : Option jm_V → hf_F → Nat → Prop} {v0 : Int}
    (H : Q (some (0, hb_and (((hb_and (((hb_and (v0 - (hb_and (hb_ushr v0 1) 1431655765)) 858993459) + (hb_and (hb_ushr (v0 - (hb_and (hb_ushr v0 1) 1431655765)) 2) 858993459)) + (hb_ushr ((hb_and (v0 - (hb_and (hb_ushr v0 1) 1431655765)) 858993459) + (hb_and (hb_ushr (v0 - (hb_and (hb_ushr v0 1) 1431655765)) 2) 858993459)) 4)) 252645135) + (hb_ushr (hb_and (((hb_and (v0 - (hb_and (hb_ushr v0 1) 1431655765)) 858993459) + (hb_and (hb_ushr (v0 - (hb_and (hb_ushr v0 1) 1431655765)) 2) 858993459)) + (hb_ushr ((hb_and (v0 - (hb_and (hb_ushr v0 1) 1431655765)) 858993459) + (hb_and (hb_ushr (v0 - (hb_and (hb_ushr v0 1) 1431655765)) 2) 858993459)) 4)) 252645135) 8)) + (hb_ushr ((hb_and (((hb_and (v0 - (hb_and (hb_ushr v0 1) 1431655765)) 858993459) + (hb_and (hb_ushr (v0 - (hb_and (hb_ushr v0 1) 1431655765)) 2) 858993459)) + (hb_ushr ((hb_and (v0 - (hb_and (hb_ushr v0 1) 1431655765)) 858993459) + (hb_and (hb_ushr (v0 - (hb_and (hb_ushr v0 1) 1431655765)) 2) 858993459)) 4)) 252645135) + (hb_ushr (hb_and (((hb_and (v0 - (hb_and (hb_ushr v0 1) 1431655765)) 858993459) + (hb_and (hb_ushr (v0 - (hb_and (hb_ushr v0 1) 1431655765)) 2) 858993459)) + (hb_ushr ((hb_and (v0 - (hb_and (hb_ushr v0 1) 1431655765)) 858993459) + (hb_and (hb_ushr (v0 - (hb_and (hb_ushr v0 1) 1431655765)) 2) 858993459)) 4)) 252645135) 8)) 16)) 63)) φ x) :
    hw sc d 112 0 [(0, (0, v0))] [] φ x Q := by
  refine hw_ld (b := 0) (e := 0) (by decide +kernel) rfl ?_
  refine hw_ld (b := 0) (e := 0) (by decide +kernel) rfl ?_
  refine hw_k (c := 1) (b := 0) (e := 1) (by decide +kernel) ?_
  refine hw_bin (w := hb_ushr v0 1) (a0 := 0) (b := 8) (e := 0) (by decide +kernel) rfl ?_
  refine hw_k (c := 1431655765) (b := 4) (e := 3) (by decide +kernel) ?_
  refine hw_bin (w := hb_and (hb_ushr v0 1) 1431655765) (a0 := 0) (b := 3) (e := 0) (by decide +kernel) rfl ?_
  refine hw_bin (w := v0 - (hb_and (hb_ushr v0 1) 1431655765)) (a0 := 0) (b := 1) (e := 0) (by decide +kernel) rfl ?_
  refine hw_st (L' := (jm_st1 [(0, (0, v0))] 0 (0, v0 - (hb_and (hb_ushr v0 1) 1431655765)))) (b := 0) (e := 0) (by decide +kernel) rfl ?_
  refine hw_ld (b := 0) (e := 0) (by decide +kernel) get_st1e ?_
  refine hw_k (c := 858993459) (b := 4) (e := 3) (by decide +kernel) ?_
  refine hw_bin (w := hb_and (v0 - (hb_and (hb_ushr v0 1) 1431655765)) 858993459) (a0 := 0) (b := 3) (e := 0) (by decide +kernel) rfl ?_
  refine hw_ld (b := 0) (e := 0) (by decide +kernel) get_st1e ?_
  refine hw_k (c := 2) (b := 0) (e := 1) (by decide +kernel) ?_
  refine hw_bin (w := hb_ushr (v0 - (hb_and (hb_ushr v0 1) 1431655765)) 2) (a0 := 0) (b := 8) (e := 0) (by decide +kernel) rfl ?_
  refine hw_k (c := 858993459) (b := 4) (e := 3) (by decide +kernel) ?_
  refine hw_bin (w := hb_and (hb_ushr (v0 - (hb_and (hb_ushr v0 1) 1431655765)) 2) 858993459) (a0 := 0) (b := 3) (e := 0) (by decide +kernel) rfl ?_
  refine hw_bin (w := (hb_and (v0 - (hb_and (hb_ushr v0 1) 1431655765)) 858993459) + (hb_and (hb_ushr (v0 - (hb_and (hb_ushr v0 1) 1431655765)) 2) 858993459)) (a0 := 0) (b := 0) (e := 0) (by decide +kernel) rfl ?_
  refine hw_st (L' := (jm_st1 (jm_st1 [(0, (0, v0))] 0 (0, v0 - (hb_and (hb_ushr v0 1) 1431655765))) 0 (0, (hb_and (v0 - (hb_and (hb_ushr v0 1) 1431655765)) 858993459) + (hb_and (hb_ushr (v0 - (hb_and (hb_ushr v0 1) 1431655765)) 2) 858993459)))) (b := 0) (e := 0) (by decide +kernel) rfl ?_
  refine hw_ld (b := 0) (e := 0) (by decide +kernel) get_st1e ?_
  refine hw_ld (b := 0) (e := 0) (by decide +kernel) get_st1e ?_
  refine hw_k (c := 4) (b := 0) (e := 1) (by decide +kernel) ?_
  refine hw_bin (w := hb_ushr ((hb_and (v0 - (hb_and (hb_ushr v0 1) 1431655765)) 858993459) + (hb_and (hb_ushr (v0 - (hb_and (hb_ushr v0 1) 1431655765)) 2) 858993459)) 4) (a0 := 0) (b := 8) (e := 0) (by decide +kernel) rfl ?_
  refine hw_bin (w := ((hb_and (v0 - (hb_and (hb_ushr v0 1) 1431655765)) 858993459) + (hb_and (hb_ushr (v0 - (hb_and (hb_ushr v0 1) 1431655765)) 2) 858993459)) + (hb_ushr ((hb_and (v0 - (hb_and (hb_ushr v0 1) 1431655765)) 858993459) + (hb_and (hb_ushr (v0 - (hb_and (hb_ushr v0 1) 1431655765)) 2) 858993459)) 4)) (a0 := 0) (b := 0) (e := 0) (by decide +kernel) rfl ?_
  refine hw_k (c := 252645135) (b := 4) (e := 3) (by decide +kernel) ?_
  refine hw_bin (w := hb_and (((hb_and (v0 - (hb_and (hb_ushr v0 1) 1431655765)) 858993459) + (hb_and (hb_ushr (v0 - (hb_and (hb_ushr v0 1) 1431655765)) 2) 858993459)) + (hb_ushr ((hb_and (v0 - (hb_and (hb_ushr v0 1) 1431655765)) 858993459) + (hb_and (hb_ushr (v0 - (hb_and (hb_ushr v0 1) 1431655765)) 2) 858993459)) 4)) 252645135) (a0 := 0) (b := 3) (e := 0) (by decide +kernel) rfl ?_
  refine hw_st (L' := (jm_st1 (jm_st1 (jm_st1 [(0, (0, v0))] 0 (0, v0 - (hb_and (hb_ushr v0 1) 1431655765))) 0 (0, (hb_and (v0 - (hb_and (hb_ushr v0 1) 1431655765)) 858993459) + (hb_and (hb_ushr (v0 - (hb_and (hb_ushr v0 1) 1431655765)) 2) 858993459))) 0 (0, hb_and (((hb_and (v0 - (hb_and (hb_ushr v0 1) 1431655765)) 858993459) + (hb_and (hb_ushr (v0 - (hb_and (hb_ushr v0 1) 1431655765)) 2) 858993459)) + (hb_ushr ((hb_and (v0 - (hb_and (hb_ushr v0 1) 1431655765)) 858993459) + (hb_and (hb_ushr (v0 - (hb_and (hb_ushr v0 1) 1431655765)) 2) 858993459)) 4)) 252645135))) (b := 0) (e := 0) (by decide +kernel) rfl ?_
  refine hw_ld (b := 0) (e := 0) (by decide +kernel) get_st1e ?_
  refine hw_ld (b := 0) (e := 0) (by decide +kernel) get_st1e ?_
  refine hw_k (c := 8) (b := 1) (e := 2) (by decide +kernel) ?_
  refine hw_bin (w := hb_ushr (hb_and (((hb_and (v0 - (hb_and (hb_ushr v0 1) 1431655765)) 858993459) + (hb_and (hb_ushr (v0 - (hb_and (hb_ushr v0 1) 1431655765)) 2) 858993459)) + (hb_ushr ((hb_and (v0 - (hb_and (hb_ushr v0 1) 1431655765)) 858993459) + (hb_and (hb_ushr (v0 - (hb_and (hb_ushr v0 1) 1431655765)) 2) 858993459)) 4)) 252645135) 8) (a0 := 0) (b := 8) (e := 0) (by decide +kernel) rfl ?_
  refine hw_bin (w := (hb_and (((hb_and (v0 - (hb_and (hb_ushr v0 1) 1431655765)) 858993459) + (hb_and (hb_ushr (v0 - (hb_and (hb_ushr v0 1) 1431655765)) 2) 858993459)) + (hb_ushr ((hb_and (v0 - (hb_and (hb_ushr v0 1) 1431655765)) 858993459) + (hb_and (hb_ushr (v0 - (hb_and (hb_ushr v0 1) 1431655765)) 2) 858993459)) 4)) 252645135) + (hb_ushr (hb_and (((hb_and (v0 - (hb_and (hb_ushr v0 1) 1431655765)) 858993459) + (hb_and (hb_ushr (v0 - (hb_and (hb_ushr v0 1) 1431655765)) 2) 858993459)) + (hb_ushr ((hb_and (v0 - (hb_and (hb_ushr v0 1) 1431655765)) 858993459) + (hb_and (hb_ushr (v0 - (hb_and (hb_ushr v0 1) 1431655765)) 2) 858993459)) 4)) 252645135) 8)) (a0 := 0) (b := 0) (e := 0) (by decide +kernel) rfl ?_
  refine hw_st (L' := (jm_st1 (jm_st1 (jm_st1 (jm_st1 [(0, (0, v0))] 0 (0, v0 - (hb_and (hb_ushr v0 1) 1431655765))) 0 (0, (hb_and (v0 - (hb_and (hb_ushr v0 1) 1431655765)) 858993459) + (hb_and (hb_ushr (v0 - (hb_and (hb_ushr v0 1) 1431655765)) 2) 858993459))) 0 (0, hb_and (((hb_and (v0 - (hb_and (hb_ushr v0 1) 1431655765)) 858993459) + (hb_and (hb_ushr (v0 - (hb_and (hb_ushr v0 1) 1431655765)) 2) 858993459)) + (hb_ushr ((hb_and (v0 - (hb_and (hb_ushr v0 1) 1431655765)) 858993459) + (hb_and (hb_ushr (v0 - (hb_and (hb_ushr v0 1) 1431655765)) 2) 858993459)) 4)) 252645135)) 0 (0, (hb_and (((hb_and (v0 - (hb_and (hb_ushr v0 1) 1431655765)) 858993459) + (hb_and (hb_ushr (v0 - (hb_and (hb_ushr v0 1) 1431655765)) 2) 858993459)) + (hb_ushr ((hb_and (v0 - (hb_and (hb_ushr v0 1) 1431655765)) 858993459) + (hb_and (hb_ushr (v0 - (hb_and (hb_ushr v0 1) 1431655765)) 2) 858993459)) 4)) 252645135) + (hb_ushr (hb_and (((hb_and (v0 - (hb_and (hb_ushr v0 1) 1431655765)) 858993459) + (hb_and (hb_ushr (v0 - (hb_and (hb_ushr v0 1) 1431655765)) 2) 858993459)) + (hb_ushr ((hb_and (v0 - (hb_and (hb_ushr v0 1) 1431655765)) 858993459) + (hb_and (hb_ushr (v0 - (hb_and (hb_ushr v0 1) 1431655765)) 2) 858993459)) 4)) 252645135) 8)))) (b := 0) (e := 0) (by decide +kernel) rfl ?_
  refine hw_ld (b := 0) (e := 0) (by decide +kernel) get_st1e ?_
  refine hw_ld (b := 0) (e := 0) (by decide +kernel) get_st1e ?_
  refine hw_k (c := 16) (b := 1) (e := 2) (by decide +kernel) ?_
  refine hw_bin (w := hb_ushr ((hb_and (((hb_and (v0 - (hb_and (hb_ushr v0 1) 1431655765)) 858993459) + (hb_and (hb_ushr (v0 - (hb_and (hb_ushr v0 1) 1431655765)) 2) 858993459)) + (hb_ushr ((hb_and (v0 - (hb_and (hb_ushr v0 1) 1431655765)) 858993459) + (hb_and (hb_ushr (v0 - (hb_and (hb_ushr v0 1) 1431655765)) 2) 858993459)) 4)) 252645135) + (hb_ushr (hb_and (((hb_and (v0 - (hb_and (hb_ushr v0 1) 1431655765)) 858993459) + (hb_and (hb_ushr (v0 - (hb_and (hb_ushr v0 1) 1431655765)) 2) 858993459)) + (hb_ushr ((hb_and (v0 - (hb_and (hb_ushr v0 1) 1431655765)) 858993459) + (hb_and (hb_ushr (v0 - (hb_and (hb_ushr v0 1) 1431655765)) 2) 858993459)) 4)) 252645135) 8)) 16) (a0 := 0) (b := 8) (e := 0) (by decide +kernel) rfl ?_
  refine hw_bin (w := ((hb_and (((hb_and (v0 - (hb_and (hb_ushr v0 1) 1431655765)) 858993459) + (hb_and (hb_ushr (v0 - (hb_and (hb_ushr v0 1) 1431655765)) 2) 858993459)) + (hb_ushr ((hb_and (v0 - (hb_and (hb_ushr v0 1) 1431655765)) 858993459) + (hb_and (hb_ushr (v0 - (hb_and (hb_ushr v0 1) 1431655765)) 2) 858993459)) 4)) 252645135) + (hb_ushr (hb_and (((hb_and (v0 - (hb_and (hb_ushr v0 1) 1431655765)) 858993459) + (hb_and (hb_ushr (v0 - (hb_and (hb_ushr v0 1) 1431655765)) 2) 858993459)) + (hb_ushr ((hb_and (v0 - (hb_and (hb_ushr v0 1) 1431655765)) 858993459) + (hb_and (hb_ushr (v0 - (hb_and (hb_ushr v0 1) 1431655765)) 2) 858993459)) 4)) 252645135) 8)) + (hb_ushr ((hb_and (((hb_and (v0 - (hb_and (hb_ushr v0 1) 1431655765)) 858993459) + (hb_and (hb_ushr (v0 - (hb_and (hb_ushr v0 1) 1431655765)) 2) 858993459)) + (hb_ushr ((hb_and (v0 - (hb_and (hb_ushr v0 1) 1431655765)) 858993459) + (hb_and (hb_ushr (v0 - (hb_and (hb_ushr v0 1) 1431655765)) 2) 858993459)) 4)) 252645135) + (hb_ushr (hb_and (((hb_and (v0 - (hb_and (hb_ushr v0 1) 1431655765)) 858993459) + (hb_and (hb_ushr (v0 - (hb_and (hb_ushr v0 1) 1431655765)) 2) 858993459)) + (hb_ushr ((hb_and (v0 - (hb_and (hb_ushr v0 1) 1431655765)) 858993459) + (hb_and (hb_ushr (v0 - (hb_and (hb_ushr v0 1) 1431655765)) 2) 858993459)) 4)) 252645135) 8)) 16)) (a0 := 0) (b := 0) (e := 0) (by decide +kernel) rfl ?_
  refine hw_st (L' := (jm_st1 (jm_st1 (jm_st1 (jm_st1 (jm_st1 [(0, (0, v0))] 0 (0, v0 - (hb_and (hb_ushr v0 1) 1431655765))) 0 (0, (hb_and (v0 - (hb_and (hb_ushr v0 1) 1431655765)) 858993459) + (hb_and (hb_ushr (v0 - (hb_and (hb_ushr v0 1) 1431655765)) 2) 858993459))) 0 (0, hb_and (((hb_and (v0 - (hb_and (hb_ushr v0 1) 1431655765)) 858993459) + (hb_and (hb_ushr (v0 - (hb_and (hb_ushr v0 1) 1431655765)) 2) 858993459)) + (hb_ushr ((hb_and (v0 - (hb_and (hb_ushr v0 1) 1431655765)) 858993459) + (hb_and (hb_ushr (v0 - (hb_and (hb_ushr v0 1) 1431655765)) 2) 858993459)) 4)) 252645135)) 0 (0, (hb_and (((hb_and (v0 - (hb_and (hb_ushr v0 1) 1431655765)) 858993459) + (hb_and (hb_ushr (v0 - (hb_and (hb_ushr v0 1) 1431655765)) 2) 858993459)) + (hb_ushr ((hb_and (v0 - (hb_and (hb_ushr v0 1) 1431655765)) 858993459) + (hb_and (hb_ushr (v0 - (hb_and (hb_ushr v0 1) 1431655765)) 2) 858993459)) 4)) 252645135) + (hb_ushr (hb_and (((hb_and (v0 - (hb_and (hb_ushr v0 1) 1431655765)) 858993459) + (hb_and (hb_ushr (v0 - (hb_and (hb_ushr v0 1) 1431655765)) 2) 858993459)) + (hb_ushr ((hb_and (v0 - (hb_and (hb_ushr v0 1) 1431655765)) 858993459) + (hb_and (hb_ushr (v0 - (hb_and (hb_ushr v0 1) 1431655765)) 2) 858993459)) 4)) 252645135) 8))) 0 (0, ((hb_and (((hb_and (v0 - (hb_and (hb_ushr v0 1) 1431655765)) 858993459) + (hb_and (hb_ushr (v0 - (hb_and (hb_ushr v0 1) 1431655765)) 2) 858993459)) + (hb_ushr ((hb_and (v0 - (hb_and (hb_ushr v0 1) 1431655765)) 858993459) + (hb_and (hb_ushr (v0 - (hb_and (hb_ushr v0 1) 1431655765)) 2) 858993459)) 4)) 252645135) + (hb_ushr (hb_and (((hb_and (v0 - (hb_and (hb_ushr v0 1) 1431655765)) 858993459) + (hb_and (hb_ushr (v0 - (hb_and (hb_ushr v0 1) 1431655765)) 2) 858993459)) + (hb_ushr ((hb_and (v0 - (hb_and (hb_ushr v0 1) 1431655765)) 858993459) + (hb_and (hb_ushr (v0 - (hb_and (hb_ushr v0 1) 1431655765)) 2) 858993459)) 4)) 252645135) 8)) + (hb_ushr ((hb_and (((hb_and (v0 - (hb_and (hb_ushr v0 1) 1431655765)) 858993459) + (hb_and (hb_ushr (v0 - (hb_and (hb_ushr v0 1) 1431655765)) 2) 858993459)) + (hb_ushr ((hb_and (v0 - (hb_and (hb_ushr v0 1) 1431655765)) 858993459) + (hb_and (hb_ushr (v0 - (hb_and (hb_ushr v0 1) 1431655765)) 2) 858993459)) 4)) 252645135) + (hb_ushr (hb_and (((hb_and (v0 - (hb_and (hb_ushr v0 1) 1431655765)) 858993459) + (hb_and (hb_ushr (v0 - (hb_and (hb_ushr v0 1) 1431655765)) 2) 858993459)) + (hb_ushr ((hb_and (v0 - (hb_and (hb_ushr v0 1) 1431655765)) 858993459) + (hb_and (hb_ushr (v0 - (hb_and (hb_ushr v0 1) 1431655765)) 2) 858993459)) 4)) 252645135) 8)) 16)))) (b := 0) (e := 0) (by decide +kernel) rfl ?_
  refine hw_ld (b := 0) (e := 0) (by decide +kernel) get_st1e ?_
  refine hw_k (c := 63) (b := 1) (e := 2) (by decide +kernel) ?_
  refine hw_bin (w := hb_and (((hb_and (((hb_and (v0 - (hb_and (hb_ushr v0 1) 1431655765)) 858993459) + (hb_and (hb_ushr (v0 - (hb_and (hb_ushr v0 1) 1431655765)) 2) 858993459)) + (hb_ushr ((hb_and (v0 - (hb_and (hb_ushr v0 1) 1431655765)) 858993459) + (hb_and (hb_ushr (v0 - (hb_and (hb_ushr v0 1) 1431655765)) 2) 858993459)) 4)) 252645135) + (hb_ushr (hb_and (((hb_and (v0 - (hb_and (hb_ushr v0 1) 1431655765)) 858993459) + (hb_and (hb_ushr (v0 - (hb_and (hb_ushr v0 1) 1431655765)) 2) 858993459)) + (hb_ushr ((hb_and (v0 - (hb_and (hb_ushr v0 1) 1431655765)) 858993459) + (hb_and (hb_ushr (v0 - (hb_and (hb_ushr v0 1) 1431655765)) 2) 858993459)) 4)) 252645135) 8)) + (hb_ushr ((hb_and (((hb_and (v0 - (hb_and (hb_ushr v0 1) 1431655765)) 858993459) + (hb_and (hb_ushr (v0 - (hb_and (hb_ushr v0 1) 1431655765)) 2) 858993459)) + (hb_ushr ((hb_and (v0 - (hb_and (hb_ushr v0 1) 1431655765)) 858993459) + (hb_and (hb_ushr (v0 - (hb_and (hb_ushr v0 1) 1431655765)) 2) 858993459)) 4)) 252645135) + (hb_ushr (hb_and (((hb_and (v0 - (hb_and (hb_ushr v0 1) 1431655765)) 858993459) + (hb_and (hb_ushr (v0 - (hb_and (hb_ushr v0 1) 1431655765)) 2) 858993459)) + (hb_ushr ((hb_and (v0 - (hb_and (hb_ushr v0 1) 1431655765)) 858993459) + (hb_and (hb_ushr (v0 - (hb_and (hb_ushr v0 1) 1431655765)) 2) 858993459)) 4)) 252645135) 8)) 16)) 63) (a0 := 0) (b := 3) (e := 0) (by decide +kernel) rfl ?_
  exact hw_ret (a0 := 0) (e := 0) (by decide +kernel) (Or.inl rfl) H
theorem sf_112 {sc : List Int} {d : Nat} {φ : hf_F} {x : Nat} {Q : Option jm_V → hf_F → Nat → Prop} {v0 : Int} (hI : Inv φ) (h0a : (-2147483648 : Int) ≤ v0) (h0b : v0 ≤ 2147483647) (hQ : ∀ (r : Int), True → F_java_lang_Integer_bitCount φ v0 = r → Q (some (0, r)) φ x) : hw sc d 112 0 [(0, (0, v0))] [] φ x Q := by
  apply sf_112_v
  have e0 : F_java_lang_Integer_bitCount φ v0 = _ := rfl
  have f1 := hr_ushr v0 1
  have f2 := hr_and0 (hb_ushr v0 1) 1431655765
  have f3 := hr_and (hb_ushr v0 1) 1431655765
  have f4 := hr_and0 (v0 - (hb_and (hb_ushr v0 1) 1431655765)) 858993459
  have f5 := hr_and (v0 - (hb_and (hb_ushr v0 1) 1431655765)) 858993459
  have f6 := hr_ushr (v0 - (hb_and (hb_ushr v0 1) 1431655765)) 2
  have f7 := hr_and0 (hb_ushr (v0 - (hb_and (hb_ushr v0 1) 1431655765)) 2) 858993459
  have f8 := hr_and (hb_ushr (v0 - (hb_and (hb_ushr v0 1) 1431655765)) 2) 858993459
  have f9 := hr_ushr ((hb_and (v0 - (hb_and (hb_ushr v0 1) 1431655765)) 858993459) + (hb_and (hb_ushr (v0 - (hb_and (hb_ushr v0 1) 1431655765)) 2) 858993459)) 4
  have f10 := hr_and0 (((hb_and (v0 - (hb_and (hb_ushr v0 1) 1431655765)) 858993459) + (hb_and (hb_ushr (v0 - (hb_and (hb_ushr v0 1) 1431655765)) 2) 858993459)) + (hb_ushr ((hb_and (v0 - (hb_and (hb_ushr v0 1) 1431655765)) 858993459) + (hb_and (hb_ushr (v0 - (hb_and (hb_ushr v0 1) 1431655765)) 2) 858993459)) 4)) 252645135
  have f11 := hr_and (((hb_and (v0 - (hb_and (hb_ushr v0 1) 1431655765)) 858993459) + (hb_and (hb_ushr (v0 - (hb_and (hb_ushr v0 1) 1431655765)) 2) 858993459)) + (hb_ushr ((hb_and (v0 - (hb_and (hb_ushr v0 1) 1431655765)) 858993459) + (hb_and (hb_ushr (v0 - (hb_and (hb_ushr v0 1) 1431655765)) 2) 858993459)) 4)) 252645135
  have f12 := hr_ushr8 (hb_and (((hb_and (v0 - (hb_and (hb_ushr v0 1) 1431655765)) 858993459) + (hb_and (hb_ushr (v0 - (hb_and (hb_ushr v0 1) 1431655765)) 2) 858993459)) + (hb_ushr ((hb_and (v0 - (hb_and (hb_ushr v0 1) 1431655765)) 858993459) + (hb_and (hb_ushr (v0 - (hb_and (hb_ushr v0 1) 1431655765)) 2) 858993459)) 4)) 252645135)
  have f13 := hr_ushr (hb_and (((hb_and (v0 - (hb_and (hb_ushr v0 1) 1431655765)) 858993459) + (hb_and (hb_ushr (v0 - (hb_and (hb_ushr v0 1) 1431655765)) 2) 858993459)) + (hb_ushr ((hb_and (v0 - (hb_and (hb_ushr v0 1) 1431655765)) 858993459) + (hb_and (hb_ushr (v0 - (hb_and (hb_ushr v0 1) 1431655765)) 2) 858993459)) 4)) 252645135) 8
  have f14 := hr_ushr ((hb_and (((hb_and (v0 - (hb_and (hb_ushr v0 1) 1431655765)) 858993459) + (hb_and (hb_ushr (v0 - (hb_and (hb_ushr v0 1) 1431655765)) 2) 858993459)) + (hb_ushr ((hb_and (v0 - (hb_and (hb_ushr v0 1) 1431655765)) 858993459) + (hb_and (hb_ushr (v0 - (hb_and (hb_ushr v0 1) 1431655765)) 2) 858993459)) 4)) 252645135) + (hb_ushr (hb_and (((hb_and (v0 - (hb_and (hb_ushr v0 1) 1431655765)) 858993459) + (hb_and (hb_ushr (v0 - (hb_and (hb_ushr v0 1) 1431655765)) 2) 858993459)) + (hb_ushr ((hb_and (v0 - (hb_and (hb_ushr v0 1) 1431655765)) 858993459) + (hb_and (hb_ushr (v0 - (hb_and (hb_ushr v0 1) 1431655765)) 2) 858993459)) 4)) 252645135) 8)) 16
  have f15 := hr_and0 (((hb_and (((hb_and (v0 - (hb_and (hb_ushr v0 1) 1431655765)) 858993459) + (hb_and (hb_ushr (v0 - (hb_and (hb_ushr v0 1) 1431655765)) 2) 858993459)) + (hb_ushr ((hb_and (v0 - (hb_and (hb_ushr v0 1) 1431655765)) 858993459) + (hb_and (hb_ushr (v0 - (hb_and (hb_ushr v0 1) 1431655765)) 2) 858993459)) 4)) 252645135) + (hb_ushr (hb_and (((hb_and (v0 - (hb_and (hb_ushr v0 1) 1431655765)) 858993459) + (hb_and (hb_ushr (v0 - (hb_and (hb_ushr v0 1) 1431655765)) 2) 858993459)) + (hb_ushr ((hb_and (v0 - (hb_and (hb_ushr v0 1) 1431655765)) 858993459) + (hb_and (hb_ushr (v0 - (hb_and (hb_ushr v0 1) 1431655765)) 2) 858993459)) 4)) 252645135) 8)) + (hb_ushr ((hb_and (((hb_and (v0 - (hb_and (hb_ushr v0 1) 1431655765)) 858993459) + (hb_and (hb_ushr (v0 - (hb_and (hb_ushr v0 1) 1431655765)) 2) 858993459)) + (hb_ushr ((hb_and (v0 - (hb_and (hb_ushr v0 1) 1431655765)) 858993459) + (hb_and (hb_ushr (v0 - (hb_and (hb_ushr v0 1) 1431655765)) 2) 858993459)) 4)) 252645135) + (hb_ushr (hb_and (((hb_and (v0 - (hb_and (hb_ushr v0 1) 1431655765)) 858993459) + (hb_and (hb_ushr (v0 - (hb_and (hb_ushr v0 1) 1431655765)) 2) 858993459)) + (hb_ushr ((hb_and (v0 - (hb_and (hb_ushr v0 1) 1431655765)) 858993459) + (hb_and (hb_ushr (v0 - (hb_and (hb_ushr v0 1) 1431655765)) 2) 858993459)) 4)) 252645135) 8)) 16)) 63
  have f16 := hr_and (((hb_and (((hb_and (v0 - (hb_and (hb_ushr v0 1) 1431655765)) 858993459) + (hb_and (hb_ushr (v0 - (hb_and (hb_ushr v0 1) 1431655765)) 2) 858993459)) + (hb_ushr ((hb_and (v0 - (hb_and (hb_ushr v0 1) 1431655765)) 858993459) + (hb_and (hb_ushr (v0 - (hb_and (hb_ushr v0 1) 1431655765)) 2) 858993459)) 4)) 252645135) + (hb_ushr (hb_and (((hb_and (v0 - (hb_and (hb_ushr v0 1) 1431655765)) 858993459) + (hb_and (hb_ushr (v0 - (hb_and (hb_ushr v0 1) 1431655765)) 2) 858993459)) + (hb_ushr ((hb_and (v0 - (hb_and (hb_ushr v0 1) 1431655765)) 858993459) + (hb_and (hb_ushr (v0 - (hb_and (hb_ushr v0 1) 1431655765)) 2) 858993459)) 4)) 252645135) 8)) + (hb_ushr ((hb_and (((hb_and (v0 - (hb_and (hb_ushr v0 1) 1431655765)) 858993459) + (hb_and (hb_ushr (v0 - (hb_and (hb_ushr v0 1) 1431655765)) 2) 858993459)) + (hb_ushr ((hb_and (v0 - (hb_and (hb_ushr v0 1) 1431655765)) 858993459) + (hb_and (hb_ushr (v0 - (hb_and (hb_ushr v0 1) 1431655765)) 2) 858993459)) 4)) 252645135) + (hb_ushr (hb_and (((hb_and (v0 - (hb_and (hb_ushr v0 1) 1431655765)) 858993459) + (hb_and (hb_ushr (v0 - (hb_and (hb_ushr v0 1) 1431655765)) 2) 858993459)) + (hb_ushr ((hb_and (v0 - (hb_and (hb_ushr v0 1) 1431655765)) 858993459) + (hb_and (hb_ushr (v0 - (hb_and (hb_ushr v0 1) 1431655765)) 2) 858993459)) 4)) 252645135) 8)) 16)) 63
  exact hQ (hb_and (((hb_and (((hb_and (v0 - (hb_and (hb_ushr v0 1) 1431655765)) 858993459) + (hb_and (hb_ushr (v0 - (hb_and (hb_ushr v0 1) 1431655765)) 2) 858993459)) + (hb_ushr ((hb_and (v0 - (hb_and (hb_ushr v0 1) 1431655765)) 858993459) + (hb_and (hb_ushr (v0 - (hb_and (hb_ushr v0 1) 1431655765)) 2) 858993459)) 4)) 252645135) + (hb_ushr (hb_and (((hb_and (v0 - (hb_and (hb_ushr v0 1) 1431655765)) 858993459) + (hb_and (hb_ushr (v0 - (hb_and (hb_ushr v0 1) 1431655765)) 2) 858993459)) + (hb_ushr ((hb_and (v0 - (hb_and (hb_ushr v0 1) 1431655765)) 858993459) + (hb_and (hb_ushr (v0 - (hb_and (hb_ushr v0 1) 1431655765)) 2) 858993459)) 4)) 252645135) 8)) + (hb_ushr ((hb_and (((hb_and (v0 - (hb_and (hb_ushr v0 1) 1431655765)) 858993459) + (hb_and (hb_ushr (v0 - (hb_and (hb_ushr v0 1) 1431655765)) 2) 858993459)) + (hb_ushr ((hb_and (v0 - (hb_and (hb_ushr v0 1) 1431655765)) 858993459) + (hb_and (hb_ushr (v0 - (hb_and (hb_ushr v0 1) 1431655765)) 2) 858993459)) 4)) 252645135) + (hb_ushr (hb_and (((hb_and (v0 - (hb_and (hb_ushr v0 1) 1431655765)) 858993459) + (hb_and (hb_ushr (v0 - (hb_and (hb_ushr v0 1) 1431655765)) 2) 858993459)) + (hb_ushr ((hb_and (v0 - (hb_and (hb_ushr v0 1) 1431655765)) 858993459) + (hb_and (hb_ushr (v0 - (hb_and (hb_ushr v0 1) 1431655765)) 2) 858993459)) 4)) 252645135) 8)) 16)) 63) trivial e0
theorem sf_111_187_v4 {sc : List Int} {d : Nat} {φ : hf_F} {x : Nat} {Q : Option jm_V → hf_F → Nat → Prop} {L : jm_L} {l1 l2 : Int} (g0 : jm_get L 0 = some (2, 187)) (g1 : jm_get L 1 = some (0, l1)) (g2 : jm_get L 2 = some (0, l2))
    (H : hi l2 ∧ hi (hb_shl 1 (φ 6 4)) ∧ ((hb_shl 1 (φ 6 4)) ≤ l2 → Q (some (0, l1)) φ x) ∧ (¬ (hb_shl 1 (φ 6 4)) ≤ l2 → hw sc d 112 0 [(0, (0, l2))] [] φ x (fun r ψ3 y3 => y3 = x ∧ φ = ψ3 ∧ (∃ z3 : Int, r = some (0, z3) ∧ (hw sc d 112 0 [(0, (0, l1))] [] φ x (fun r ψ4 y4 => y4 = x ∧ φ = ψ4 ∧ (∃ z4 : Int, r = some (0, z4) ∧ (((jm_n z3) ≤ (jm_n z4) → hw sc (d + 1) 111 4 (jm_st1 L 2 (0, l2 + 1)) [] φ x Q) ∧ (¬ (jm_n z3) ≤ (jm_n z4) → hw sc d 113 0 [(0, (2, 187)), (1, (0, l2))] [] φ x (fun r ψ6 y6 => y6 = x ∧ φ = ψ6 ∧ (∃ z6 : Int, r = some (0, z6) ∧ (hi z6 ∧ (z6 = 0 → hw sc (d + 1) 111 4 (jm_st1 L 2 (0, l2 + 1)) [] φ x Q) ∧ (¬ z6 = 0 → hw sc (d + 1) 111 4 (jm_st1 (jm_st1 L 1 (0, l2)) 2 (0, l2 + 1)) [] φ x Q))))))))))))) :
    hw sc (d + 1) 111 4 L [] φ x Q := by
  refine hw_ld (b := 2) (e := 0) (by decide +kernel) g2 ?_
  refine hw_k (c := 1) (b := 0) (e := 1) (by decide +kernel) ?_
  refine hw_ald (b := 0) (e := 0) (by decide +kernel) g0 (by decide) ?_
  refine hr_gr (w := 5) (b := 9) (e := 0) 187 rfl (by decide +kernel) ?_
  refine hr_gr (w := 6) (b := 3) (e := 0) 5 rfl (by decide +kernel) ?_
  refine hw_k (c := 4) (b := 0) (e := 1) (by decide +kernel) ?_
  refine hr_al (b := 0) (a0 := 0) (e := 0) (n := 5) (w := φ 6 4) 6 rfl (by decide +kernel) (by decide) (by decide) (by decide) rfl ?_
  refine hw_bin (w := hb_shl 1 (φ 6 4)) (a0 := 0) (b := 6) (e := 0) (by decide +kernel) rfl ?_
  obtain ⟨hz1, hy1, ht1, hf1⟩ := H
  refine hw_if2 (a0 := 0) (b := 3) (e := 46) (by decide +kernel) hz1 hy1 (fun q => ?_) (fun q => ?_)
  · have H := ht1 q
    refine hw_ld (b := 1) (e := 0) (by decide +kernel) g1 ?_
    exact hw_ret (a0 := 0) (e := 0) (by decide +kernel) (Or.inl rfl) H
  · have H := hf1 q
    refine hw_ld (b := 2) (e := 0) (by decide +kernel) g2 ?_
    refine hr_calls (b := 112) (e := 1) (nl := 1) (As := [(0, l2)]) (R := []) (by decide +kernel) rfl rfl (Nat.le_of_ble_eq_true rfl) (Nat.le_of_ble_eq_true rfl) ?_
    refine hw_mono H ?_
    rintro r ψ3 y3 ⟨hyx, hψx, z3, hr, H⟩
    subst hyx
    subst hψx
    subst hr
    refine ⟨hne0, ?_⟩
    show hw sc (d + 1) 111 23 L [(0, z3)] φ y3 Q
    refine hw_ld (b := 1) (e := 0) (by decide +kernel) g1 ?_
    refine hr_calls (b := 112) (e := 1) (nl := 1) (As := [(0, l1)]) (R := [(0, z3)]) (by decide +kernel) rfl rfl (Nat.le_of_ble_eq_true rfl) (Nat.le_of_ble_eq_true rfl) ?_
    refine hw_mono H ?_
    rintro r ψ4 y4 ⟨hyx, hψx, z4, hr, H⟩
    subst hyx
    subst hψx
    subst hr
    refine ⟨hne0, ?_⟩
    show hw sc (d + 1) 111 27 L [(0, z4), (0, z3)] φ y4 Q
    obtain ⟨ht5, hf5⟩ := H
    refine hw_if2n (a0 := 0) (b := 5) (e := 40) (by decide +kernel) (fun q => ?_) (fun q => ?_)
    · have H := ht5 q
      refine hw_inc (L' := (jm_st1 L 2 (0, l2 + 1))) (c := 1) (b := 2) (e := 0) (by decide +kernel) g2 rfl ?_
      refine hw_goto (a0 := 0) (b := 0) (e := 4) (by decide +kernel) ?_
      exact H
    · have H := hf5 q
      refine hw_ald (b := 0) (e := 0) (by decide +kernel) g0 (by decide) ?_
      refine hw_ld (b := 2) (e := 0) (by decide +kernel) g2 ?_
      refine hr_call (a0 := 19) (b := 113) (e := 2) (nl := 3) (As := [(0, l2)]) (R := []) 187 rfl (by decide +kernel) rfl rfl (Nat.le_of_ble_eq_true rfl) (Nat.le_of_ble_eq_true rfl) ?_
      refine hw_mono H ?_
      rintro r ψ6 y6 ⟨hyx, hψx, z6, hr, H⟩
      subst hyx
      subst hψx
      subst hr
      refine ⟨hne0, ?_⟩
      show hw sc (d + 1) 111 35 L [(0, z6)] φ y6 Q
      obtain ⟨hz7, ht7, hf7⟩ := H
      refine hw_if (a0 := 0) (b := 0) (e := 40) (by decide +kernel) hz7 (fun q => ?_) (fun q => ?_)
      · have H := ht7 q
        refine hw_inc (L' := (jm_st1 L 2 (0, l2 + 1))) (c := 1) (b := 2) (e := 0) (by decide +kernel) g2 rfl ?_
        refine hw_goto (a0 := 0) (b := 0) (e := 4) (by decide +kernel) ?_
        exact H
      · have H := hf7 q
        refine hw_ld (b := 2) (e := 0) (by decide +kernel) g2 ?_
        refine hw_st (L' := (jm_st1 L 1 (0, l2))) (b := 1) (e := 0) (by decide +kernel) rfl ?_
        refine hw_inc (L' := (jm_st1 (jm_st1 L 1 (0, l2)) 2 (0, l2 + 1))) (c := 1) (b := 2) (e := 0) (by decide +kernel) (get_st1 g2 (by decide) (fun q => absurd q.1 (by decide))) rfl ?_
        refine hw_goto (a0 := 0) (b := 0) (e := 4) (by decide +kernel) ?_
        exact H
theorem sf_111_187_l4 {sc : List Int} {d x : Nat} {Q : Option jm_V → hf_F → Nat → Prop} : ∀ (n : Nat) (φ : hf_F) (L : jm_L) (l1 l2 : Int), jm_get L 0 = some (2, 187) → jm_get L 1 = some (0, l1) → jm_get L 2 = some (0, l2) → Inv φ → 256 - l2 < (n : Int) → 0 ≤ l1 → l1 ≤ 256 → 1 ≤ l2 → l2 ≤ 256 → (∀ (r : Int), 0 ≤ r ∧ r ≤ 256 → F_Outlook_lawsInPeace_187_l4 n φ l1 l2 = r → Q (some (0, r)) φ x) → hw sc (d + 1) 111 4 L [] φ x Q := by
  intro n
  induction n with
  | zero =>
    intro φ L l1 l2 g0 g1 g2 hI hM b1a b1b b2a b2b hQ
    exfalso
    omega
  | succ n ih =>
    intro φ L l1 l2 g0 g1 g2 hI hM b1a b1b b2a b2b hQ
    refine sf_111_187_v4 g0 g1 g2 ?_
    have e0 := F_Outlook_lawsInPeace_187_l4_s (φ := φ) (l1 := l1) (l2 := l2) n
    have f1 := iv_at (a := 6) (k := 4) (lo := 0) (u := 8) hI (by decide +kernel)
    have f2 := hr_shl1 (φ 6 4)
    have f3 := hr_shl 1 (φ 6 4)
    refine ⟨by unfold hi; omega, by unfold hi; omega, fun q1 => ?_, fun q1 => ?_⟩
    · skip
      have e1a := e0.trans (if_pos q1)
      exact hQ l1 ⟨by omega, by omega⟩ e1a
    · skip
      have e1b := e0.trans (if_neg q1)
      refine sf_112 (φ := φ) hI (by omega) (by omega) (fun z3 hp3 hE3 => ⟨rfl, rfl, z3, rfl, ?_⟩)
      have e3 := e1b.trans (bnp_e hE3)
      refine sf_112 (φ := φ) hI (by omega) (by omega) (fun z4 hp4 hE4 => ⟨rfl, rfl, z4, rfl, ?_⟩)
      have e4 := e3.trans (bnp_e hE4)
      have f4 := hr_n z3
      have f5 := hr_n z4
      refine ⟨fun q5 => ?_, fun q5 => ?_⟩
      · skip
        have e5a := e4.trans (if_pos q5)
        exact ih φ (jm_st1 L 2 (0, l2 + 1)) l1 (l2 + 1) (get_st1 g0 (by decide) (fun q => absurd q.1 (by decide))) (get_st1 g1 (by decide) (fun q => tg0 q.2)) get_st1e hI (by omega) (by omega) (by omega) (by omega) (by omega) (fun rr hpχ hEχ => hQ rr hpχ (e5a.trans hEχ))
      · skip
        have e5b := e4.trans (if_neg q5)
        refine sf_113_187 (φ := φ) hI (by omega) (by omega) (fun z6 hp6 hE6 => ⟨rfl, rfl, z6, rfl, ?_⟩)
        have e6 := e5b.trans (bnp_e hE6)
        refine ⟨by unfold hi; omega, fun q7 => ?_, fun q7 => ?_⟩
        · skip
          have e7a := e6.trans (if_pos q7)
          exact ih φ (jm_st1 L 2 (0, l2 + 1)) l1 (l2 + 1) (get_st1 g0 (by decide) (fun q => absurd q.1 (by decide))) (get_st1 g1 (by decide) (fun q => tg0 q.2)) get_st1e hI (by omega) (by omega) (by omega) (by omega) (by omega) (fun rr hpχ hEχ => hQ rr hpχ (e7a.trans hEχ))
        · skip
          have e7b := e6.trans (if_neg q7)
          exact ih φ (jm_st1 (jm_st1 L 1 (0, l2)) 2 (0, l2 + 1)) l2 (l2 + 1) (get_st1 (get_st1 g0 (by decide) (fun q => tg2 q.2)) (by decide) (fun q => absurd q.1 (by decide))) (get_st1 get_st1e (by decide) (fun q => tg0 q.2)) get_st1e hI (by omega) (by omega) (by omega) (by omega) (by omega) (fun rr hpχ hEχ => hQ rr hpχ (e7b.trans hEχ))
theorem sf_111_187_v {sc : List Int} {d : Nat} {φ : hf_F} {x : Nat} {Q : Option jm_V → hf_F → Nat → Prop} 
    (H : hw sc (d + 1) 111 4 (jm_st1 (jm_st1 [(0, (2, 187))] 1 (0, 0)) 2 (0, 1)) [] φ x Q) :
    hw sc (d + 1) 111 0 [(0, (2, 187))] [] φ x Q := by
  refine hw_k (c := 0) (b := 0) (e := 1) (by decide +kernel) ?_
  refine hw_st (L' := (jm_st1 [(0, (2, 187))] 1 (0, 0))) (b := 1) (e := 0) (by decide +kernel) rfl ?_
  refine hw_k (c := 1) (b := 0) (e := 1) (by decide +kernel) ?_
  refine hw_st (L' := (jm_st1 (jm_st1 [(0, (2, 187))] 1 (0, 0)) 2 (0, 1))) (b := 2) (e := 0) (by decide +kernel) rfl ?_
  exact H
theorem sf_111_187 {sc : List Int} {d : Nat} {φ : hf_F} {x : Nat} {Q : Option jm_V → hf_F → Nat → Prop}  (hI : Inv φ)  (hQ : ∀ (r : Int), 0 ≤ r ∧ r ≤ 256 → F_Outlook_lawsInPeace_187 φ = r → Q (some (0, r)) φ x) : hw sc (d + 1) 111 0 [(0, (2, 187))] [] φ x Q := by
  apply sf_111_187_v
  have e0 : F_Outlook_lawsInPeace_187 φ = _ := rfl
  exact sf_111_187_l4 ((256 - 1 : Int).toNat + 1) φ (jm_st1 (jm_st1 [(0, (2, 187))] 1 (0, 0)) 2 (0, 1)) 0 1 (get_st1 (get_st1 rfl (by decide) (fun q => tg2 q.2)) (by decide) (fun q => absurd q.1 (by decide))) (get_st1 get_st1e (by decide) (fun q => tg0 q.2)) get_st1e hI (by omega) (by omega) (by omega) (by omega) (by omega) (fun rr hpχ hEχ => hQ rr hpχ (e0.trans hEχ))
theorem sf_110_0_v {sc : List Int} {d : Nat} {φ : hf_F} {x : Nat} {Q : Option jm_V → hf_F → Nat → Prop} 
    (H : hw sc (d + 1) 111 0 [(0, (2, 187))] [] φ x (fun r ψ1 y1 => y1 = x ∧ φ = ψ1 ∧ (∃ z1 : Int, r = some (0, z1) ∧ (hw sc (d + 1) 112 0 [(0, (0, z1))] [] (hf_up φ 0 14 z1) x (fun r ψ2 y2 => y2 = x ∧ (hf_up φ 0 14 z1) = ψ2 ∧ (∃ z2 : Int, r = some (0, z2) ∧ (Q (some (0, z2)) (hf_up φ 0 14 z1) x))))))) :
    hw sc (d + 2) 110 0 [(0, (2, 0))] [] φ x Q := by
  refine hw_ald (b := 0) (e := 0) (by decide +kernel) rfl (by decide) ?_
  refine hw_ald (b := 0) (e := 0) (by decide +kernel) rfl (by decide) ?_
  refine hr_gr (w := 187) (b := 0) (e := 8) 0 rfl (by decide +kernel) ?_
  refine hr_call (a0 := 19) (b := 111) (e := 1) (nl := 3) (As := []) (R := [(2, 0)]) 187 rfl (by decide +kernel) rfl rfl (Nat.le_of_ble_eq_true rfl) (Nat.le_of_ble_eq_true rfl) ?_
  refine hw_mono H ?_
  rintro r ψ1 y1 ⟨hyx, hψx, z1, hr, H⟩
  subst hyx
  subst hψx
  subst hr
  refine ⟨hne0, ?_⟩
  show hw sc (d + 2) 110 8 [(0, (2, 0))] [(0, z1), (2, 0)] φ y1 Q
  refine hr_pi (b := 0) (e := 14) 0 rfl (by decide +kernel) ?_
  refine hw_ald (b := 0) (e := 0) (by decide +kernel) rfl (by decide) ?_
  refine hr_gi (w := z1) (b := 0) (e := 14) 0 rfl (by decide +kernel) hf_up_eq ?_
  refine hr_calls (b := 112) (e := 1) (nl := 1) (As := [(0, z1)]) (R := []) (by decide +kernel) rfl rfl (Nat.le_of_ble_eq_true rfl) (Nat.le_of_ble_eq_true rfl) ?_
  refine hw_mono H ?_
  rintro r ψ2 y2 ⟨hyx, hψx, z2, hr, H⟩
  subst hyx
  subst hψx
  subst hr
  refine ⟨hne0, ?_⟩
  show hw sc (d + 2) 110 18 [(0, (2, 0))] [(0, z2)] (hf_up φ 0 14 z1) y2 Q
  exact hw_ret (a0 := 0) (e := 0) (by decide +kernel) (Or.inl rfl) H
theorem sf_110_0 {sc : List Int} {d : Nat} {φ : hf_F} {x : Nat} {Q : Option jm_V → hf_F → Nat → Prop}  (hI : Inv φ)  (hQ : ∀ (r : Int) (ψ : hf_F), Inv ψ → Fr [1014] φ ψ → True → F_RideLaws_stand_0 φ = (r, ψ) → Q (some (0, r)) ψ x) : hw sc (d + 2) 110 0 [(0, (2, 0))] [] φ x Q := by
  apply sf_110_0_v
  have e0 : F_RideLaws_stand_0 φ = _ := rfl
  refine sf_111_187 (φ := φ) hI  (fun z1 hp1 hE1 => ⟨rfl, rfl, z1, rfl, ?_⟩)
  have e1 := e0.trans (bnp_e hE1)
  have i1 : Inv (hf_up φ 0 14 z1) := iv_up (lo := (-2147483648 : Int)) (u := 2147483647) hI (by decide +kernel) (by omega) (by omega)
  have r1 : Fr [1014] φ (hf_up φ 0 14 z1) := fr_up (fr_rf) (by decide)
  refine sf_112 (φ := (hf_up φ 0 14 z1)) i1 (by omega) (by omega) (fun z2 hp2 hE2 => ⟨rfl, rfl, z2, rfl, ?_⟩)
  have e2 := e1.trans (bnp_e hE2)
  exact hQ z2 (hf_up φ 0 14 z1) i1 r1 trivial e2
theorem sf_117_187_v4 {sc : List Int} {d : Nat} {φ : hf_F} {x : Nat} {Q : Option jm_V → hf_F → Nat → Prop} {L : jm_L} {l1 l2 l3 : Int} (g0 : jm_get L 0 = some (2, 187)) (g1 : jm_get L 1 = some (0, l1)) (g2 : jm_get L 2 = some (0, l2)) (g3 : jm_get L 3 = some (0, l3))
    (H : hi l3 ∧ hi (φ 6 3) ∧ ((φ 6 3) ≤ l3 → Q (some (0, l2)) φ x) ∧ (¬ (φ 6 3) ≤ l3 → 0 ≤ l3 ∧ l3 < 6 ∧ (0 ≤ l3 ∧ l3 < 6 ∧ (((jm_n (φ 50 ((l3).toNat))) ≤ (jm_n (φ 24 ((l3).toNat))) → hw sc d 117 4 (jm_st1 L 3 (0, l3 + 1)) [] φ x Q) ∧ (¬ (jm_n (φ 50 ((l3).toNat))) ≤ (jm_n (φ 24 ((l3).toNat))) → hw sc d 117 4 (jm_st1 (jm_st1 L 2 (0, hb_and l2 (hb_xor (hb_shl 1 l3) (-1 : Int)))) 3 (0, l3 + 1)) [] φ x Q))))) :
    hw sc d 117 4 L [] φ x Q := by
  refine hw_ld (b := 3) (e := 0) (by decide +kernel) g3 ?_
  refine hw_ald (b := 0) (e := 0) (by decide +kernel) g0 (by decide) ?_
  refine hr_gr (w := 5) (b := 9) (e := 0) 187 rfl (by decide +kernel) ?_
  refine hr_gr (w := 6) (b := 3) (e := 0) 5 rfl (by decide +kernel) ?_
  refine hw_k (c := 3) (b := 0) (e := 1) (by decide +kernel) ?_
  refine hr_al (b := 0) (a0 := 0) (e := 0) (n := 5) (w := φ 6 3) 6 rfl (by decide +kernel) (by decide) (by decide) (by decide) rfl ?_
  obtain ⟨hz1, hy1, ht1, hf1⟩ := H
  refine hw_if2 (a0 := 0) (b := 3) (e := 52) (by decide +kernel) hz1 hy1 (fun q => ?_) (fun q => ?_)
  · have H := ht1 q
    refine hw_ld (b := 2) (e := 0) (by decide +kernel) g2 ?_
    exact hw_ret (a0 := 0) (e := 0) (by decide +kernel) (Or.inl rfl) H
  · have H := hf1 q
    refine hw_ald (b := 0) (e := 0) (by decide +kernel) g0 (by decide) ?_
    refine hr_gr (w := 43) (b := 9) (e := 2) 187 rfl (by decide +kernel) ?_
    refine hr_gr (w := 50) (b := 4) (e := 12) 43 rfl (by decide +kernel) ?_
    refine hw_ld (b := 3) (e := 0) (by decide +kernel) g3 ?_
    obtain ⟨hl3, hu3, H⟩ := H
    refine hr_al (b := 0) (a0 := 0) (e := 0) (n := 6) (w := φ 50 ((l3).toNat)) 50 rfl (by decide +kernel) (by decide) hl3 hu3 rfl ?_
    refine hw_ald (b := 0) (e := 0) (by decide +kernel) g0 (by decide) ?_
    refine hr_gr (w := 17) (b := 9) (e := 1) 187 rfl (by decide +kernel) ?_
    refine hr_gr (w := 24) (b := 4) (e := 12) 17 rfl (by decide +kernel) ?_
    refine hw_ld (b := 3) (e := 0) (by decide +kernel) g3 ?_
    obtain ⟨hl4, hu4, H⟩ := H
    refine hr_al (b := 0) (a0 := 0) (e := 0) (n := 6) (w := φ 24 ((l3).toNat)) 24 rfl (by decide +kernel) (by decide) hl4 hu4 rfl ?_
    obtain ⟨ht5, hf5⟩ := H
    refine hw_if2n (a0 := 0) (b := 5) (e := 46) (by decide +kernel) (fun q => ?_) (fun q => ?_)
    · have H := ht5 q
      refine hw_inc (L' := (jm_st1 L 3 (0, l3 + 1))) (c := 1) (b := 3) (e := 0) (by decide +kernel) g3 rfl ?_
      refine hw_goto (a0 := 0) (b := 0) (e := 4) (by decide +kernel) ?_
      exact H
    · have H := hf5 q
      refine hw_ld (b := 2) (e := 0) (by decide +kernel) g2 ?_
      refine hw_k (c := 1) (b := 0) (e := 1) (by decide +kernel) ?_
      refine hw_ld (b := 3) (e := 0) (by decide +kernel) g3 ?_
      refine hw_bin (w := hb_shl 1 l3) (a0 := 0) (b := 6) (e := 0) (by decide +kernel) rfl ?_
      refine hw_k (c := (-1 : Int)) (b := 0) (e := 1) (by decide +kernel) ?_
      refine hw_bin (w := hb_xor (hb_shl 1 l3) (-1 : Int)) (a0 := 0) (b := 5) (e := 0) (by decide +kernel) rfl ?_
      refine hw_bin (w := hb_and l2 (hb_xor (hb_shl 1 l3) (-1 : Int))) (a0 := 0) (b := 3) (e := 0) (by decide +kernel) rfl ?_
      refine hw_st (L' := (jm_st1 L 2 (0, hb_and l2 (hb_xor (hb_shl 1 l3) (-1 : Int))))) (b := 2) (e := 0) (by decide +kernel) rfl ?_
      refine hw_inc (L' := (jm_st1 (jm_st1 L 2 (0, hb_and l2 (hb_xor (hb_shl 1 l3) (-1 : Int)))) 3 (0, l3 + 1))) (c := 1) (b := 3) (e := 0) (by decide +kernel) (get_st1 g3 (by decide) (fun q => absurd q.1 (by decide))) rfl ?_
      refine hw_goto (a0 := 0) (b := 0) (e := 4) (by decide +kernel) ?_
      exact H
theorem sf_117_187_l4 {sc : List Int} {d x : Nat} {Q : Option jm_V → hf_F → Nat → Prop} : ∀ (n : Nat) (φ : hf_F) (L : jm_L) (l1 l2 l3 : Int), jm_get L 0 = some (2, 187) → jm_get L 1 = some (0, l1) → jm_get L 2 = some (0, l2) → jm_get L 3 = some (0, l3) → Inv φ → 6 - l3 < (n : Int) → (-2147483648 : Int) ≤ l1 → l1 ≤ 2147483647 → (-2147483648 : Int) ≤ l2 → l2 ≤ 2147483647 → 0 ≤ l3 → l3 ≤ 6 → (∀ (r : Int), (-2147483648 : Int) ≤ r ∧ r ≤ 2147483647 → F_Outlook_stillSilent_187_l4 n φ l1 l2 l3 = r → Q (some (0, r)) φ x) → hw sc d 117 4 L [] φ x Q := by
  intro n
  induction n with
  | zero =>
    intro φ L l1 l2 l3 g0 g1 g2 g3 hI hM b1a b1b b2a b2b b3a b3b hQ
    exfalso
    omega
  | succ n ih =>
    intro φ L l1 l2 l3 g0 g1 g2 g3 hI hM b1a b1b b2a b2b b3a b3b hQ
    refine sf_117_187_v4 g0 g1 g2 g3 ?_
    have e0 := F_Outlook_stillSilent_187_l4_s (φ := φ) (l1 := l1) (l2 := l2) (l3 := l3) n
    have f1 := iv_at (a := 6) (k := 3) (lo := 0) (u := 6) hI (by decide +kernel)
    refine ⟨by unfold hi; omega, by unfold hi; omega, fun q1 => ?_, fun q1 => ?_⟩
    · skip
      have e1a := e0.trans (if_pos q1)
      exact hQ l2 ⟨by omega, by omega⟩ e1a
    · skip
      have e1b := e0.trans (if_neg q1)
      refine ⟨by omega, by omega, ?_⟩
      refine ⟨by omega, by omega, ?_⟩
      have f2 := hr_n (φ 50 ((l3).toNat))
      have f3 := hr_n (φ 24 ((l3).toNat))
      refine ⟨fun q5 => ?_, fun q5 => ?_⟩
      · skip
        have e5a := e1b.trans (if_pos q5)
        exact ih φ (jm_st1 L 3 (0, l3 + 1)) l1 l2 (l3 + 1) (get_st1 g0 (by decide) (fun q => absurd q.1 (by decide))) (get_st1 g1 (by decide) (fun q => absurd q.1 (by decide))) (get_st1 g2 (by decide) (fun q => tg0 q.2)) get_st1e hI (by omega) (by omega) (by omega) (by omega) (by omega) (by omega) (by omega) (fun rr hpχ hEχ => hQ rr hpχ (e5a.trans hEχ))
      · skip
        have e5b := e1b.trans (if_neg q5)
        have f4 := hr_shl1 l3
        have f5 := hr_shl 1 l3
        have f6 := hr_xor (hb_shl 1 l3) (-1 : Int)
        have f7 := hr_and0 l2 (hb_xor (hb_shl 1 l3) (-1 : Int))
        have f8 := hr_and l2 (hb_xor (hb_shl 1 l3) (-1 : Int))
        exact ih φ (jm_st1 (jm_st1 L 2 (0, hb_and l2 (hb_xor (hb_shl 1 l3) (-1 : Int)))) 3 (0, l3 + 1)) l1 (hb_and l2 (hb_xor (hb_shl 1 l3) (-1 : Int))) (l3 + 1) (get_st1 (get_st1 g0 (by decide) (fun q => absurd q.1 (by decide))) (by decide) (fun q => absurd q.1 (by decide))) (get_st1 (get_st1 g1 (by decide) (fun q => tg0 q.2)) (by decide) (fun q => absurd q.1 (by decide))) (get_st1 get_st1e (by decide) (fun q => tg0 q.2)) get_st1e hI (by omega) (by omega) (by omega) (by omega) (by omega) (by omega) (by omega) (fun rr hpχ hEχ => hQ rr hpχ (e5b.trans hEχ))
theorem sf_117_187_v {sc : List Int} {d : Nat} {φ : hf_F} {x : Nat} {Q : Option jm_V → hf_F → Nat → Prop} {v1 : Int}
    (H : hw sc d 117 4 (jm_st1 (jm_st1 [(0, (2, 187)), (1, (0, v1))] 2 (0, v1)) 3 (0, 0)) [] φ x Q) :
    hw sc d 117 0 [(0, (2, 187)), (1, (0, v1))] [] φ x Q := by
  refine hw_ld (b := 1) (e := 0) (by decide +kernel) rfl ?_
  refine hw_st (L' := (jm_st1 [(0, (2, 187)), (1, (0, v1))] 2 (0, v1))) (b := 2) (e := 0) (by decide +kernel) rfl ?_
  refine hw_k (c := 0) (b := 0) (e := 1) (by decide +kernel) ?_
  refine hw_st (L' := (jm_st1 (jm_st1 [(0, (2, 187)), (1, (0, v1))] 2 (0, v1)) 3 (0, 0))) (b := 3) (e := 0) (by decide +kernel) rfl ?_
  exact H
theorem sf_117_187 {sc : List Int} {d : Nat} {φ : hf_F} {x : Nat} {Q : Option jm_V → hf_F → Nat → Prop} {v1 : Int} (hI : Inv φ) (h1a : (-2147483648 : Int) ≤ v1) (h1b : v1 ≤ 2147483647) (hQ : ∀ (r : Int), (-2147483648 : Int) ≤ r ∧ r ≤ 2147483647 → F_Outlook_stillSilent_187 φ v1 = r → Q (some (0, r)) φ x) : hw sc d 117 0 [(0, (2, 187)), (1, (0, v1))] [] φ x Q := by
  apply sf_117_187_v
  have e0 : F_Outlook_stillSilent_187 φ v1 = _ := rfl
  exact sf_117_187_l4 ((6 - 0 : Int).toNat + 1) φ (jm_st1 (jm_st1 [(0, (2, 187)), (1, (0, v1))] 2 (0, v1)) 3 (0, 0)) v1 v1 0 (get_st1 (get_st1 rfl (by decide) (fun q => absurd q.1 (by decide))) (by decide) (fun q => absurd q.1 (by decide))) (get_st1 (get_st1 rfl (by decide) (fun q => tg0 q.2)) (by decide) (fun q => absurd q.1 (by decide))) (get_st1 get_st1e (by decide) (fun q => tg0 q.2)) get_st1e hI (by omega) (by omega) (by omega) (by omega) (by omega) (by omega) (by omega) (fun rr hpχ hEχ => hQ rr hpχ (e0.trans hEχ))
theorem sf_116_187_v67 {sc : List Int} {d : Nat} {φ : hf_F} {x : Nat} {Q : Option jm_V → hf_F → Nat → Prop} {L : jm_L} {l1 l2 : Int} (g0 : jm_get L 0 = some (2, 187)) (g1 : jm_get L 1 = some (0, l1)) (g2 : jm_get L 2 = some (0, l2))
    (H : hi l2 ∧ hi 300 ∧ (300 < l2 → Q (some (0, (-1 : Int))) φ x) ∧ (¬ 300 < l2 → hw sc (d + 2) 117 0 [(0, (2, 187)), (1, (0, l1))] [] φ x (fun r ψ3 y3 => y3 = x ∧ φ = ψ3 ∧ (∃ z3 : Int, r = some (0, z3) ∧ (hi z3 ∧ (¬ z3 = 0 → hw sc (d + 2) 91 0 [(0, (2, 43)), (1, (2, 5))] [] φ x (fun r ψ5 y5 => y5 = x ∧ (r = none ∧ (hw sc (d + 3) 116 67 (jm_st1 (jm_st1 L 1 (0, z3)) 2 (0, l2 + 1)) [] ψ5 x Q)))) ∧ (¬ (¬ z3 = 0) → Q (some (0, l2)) φ x)))))) :
    hw sc (d + 3) 116 67 L [] φ x Q := by
  refine hw_ld (b := 2) (e := 0) (by decide +kernel) g2 ?_
  refine hw_k (c := 300) (b := 2) (e := 3) (by decide +kernel) ?_
  obtain ⟨hz1, hy1, ht1, hf1⟩ := H
  refine hw_if2 (a0 := 0) (b := 4) (e := 103) (by decide +kernel) hz1 hy1 (fun q => ?_) (fun q => ?_)
  · have H := ht1 q
    refine hw_k (c := (-1 : Int)) (b := 0) (e := 1) (by decide +kernel) ?_
    exact hw_ret (a0 := 0) (e := 0) (by decide +kernel) (Or.inl rfl) H
  · have H := hf1 q
    refine hw_ald (b := 0) (e := 0) (by decide +kernel) g0 (by decide) ?_
    refine hw_ld (b := 1) (e := 0) (by decide +kernel) g1 ?_
    refine hr_call (a0 := 19) (b := 117) (e := 2) (nl := 4) (As := [(0, l1)]) (R := []) 187 rfl (by decide +kernel) rfl rfl (Nat.le_of_ble_eq_true rfl) (Nat.le_of_ble_eq_true rfl) ?_
    refine hw_mono H ?_
    rintro r ψ3 y3 ⟨hyx, hψx, z3, hr, H⟩
    subst hyx
    subst hψx
    subst hr
    refine ⟨hne0, ?_⟩
    show hw sc (d + 3) 116 79 L [(0, z3)] φ y3 Q
    refine hw_st (L' := (jm_st1 L 1 (0, z3))) (b := 1) (e := 0) (by decide +kernel) rfl ?_
    refine hw_ld (b := 1) (e := 0) (by decide +kernel) get_st1e ?_
    obtain ⟨hz4, ht4, hf4⟩ := H
    refine hw_if (a0 := 0) (b := 1) (e := 86) (by decide +kernel) hz4 (fun q => ?_) (fun q => ?_)
    · have H := ht4 q
      refine hw_ald (b := 0) (e := 0) (by decide +kernel) (get_st1 g0 (by decide) (fun q => tg2 q.2)) (by decide) ?_
      refine hr_gr (w := 43) (b := 9) (e := 2) 187 rfl (by decide +kernel) ?_
      refine hw_ald (b := 0) (e := 0) (by decide +kernel) (get_st1 g0 (by decide) (fun q => tg2 q.2)) (by decide) ?_
      refine hr_gr (w := 5) (b := 9) (e := 0) 187 rfl (by decide +kernel) ?_
      refine hr_call (a0 := 14) (b := 91) (e := 2) (nl := 6) (As := [(2, 5)]) (R := []) 43 rfl (by decide +kernel) rfl rfl (Nat.le_of_ble_eq_true rfl) (Nat.le_of_ble_eq_true rfl) ?_
      refine hw_mono H ?_
      rintro r ψ5 y5 ⟨hyx, hr, H⟩
      subst hyx
      subst hr
      refine ⟨hnen, ?_⟩
      show hw sc (d + 3) 116 97 (jm_st1 L 1 (0, z3)) [] ψ5 y5 Q
      refine hw_inc (L' := (jm_st1 (jm_st1 L 1 (0, z3)) 2 (0, l2 + 1))) (c := 1) (b := 2) (e := 0) (by decide +kernel) (get_st1 g2 (by decide) (fun q => absurd q.1 (by decide))) rfl ?_
      refine hw_goto (a0 := 0) (b := 0) (e := 67) (by decide +kernel) ?_
      exact H
    · have H := hf4 q
      refine hw_ld (b := 2) (e := 0) (by decide +kernel) (get_st1 g2 (by decide) (fun q => absurd q.1 (by decide))) ?_
      exact hw_ret (a0 := 0) (e := 0) (by decide +kernel) (Or.inl rfl) H
theorem sf_116_187_l67 {sc : List Int} {d x : Nat} {Q : Option jm_V → hf_F → Nat → Prop} : ∀ (n : Nat) (φ : hf_F) (L : jm_L) (l1 l2 : Int), jm_get L 0 = some (2, 187) → jm_get L 1 = some (0, l1) → jm_get L 2 = some (0, l2) → Inv φ → 301 - l2 < (n : Int) → (-2147483648 : Int) ≤ l1 → l1 ≤ 2147483647 → 0 ≤ l2 → l2 ≤ 301 → (∀ (r : Int) (ψ : hf_F), Inv ψ → Fr [44, 45, 46, 47, 48, 49, 50, 51, 44000, 44001, 44002, 44003, 44004, 44005] φ ψ → True → F_Outlook_ticksTillAllSpoke_187_l67 n φ l1 l2 = (r, ψ) → Q (some (0, r)) ψ x) → hw sc (d + 3) 116 67 L [] φ x Q := by
  intro n
  induction n with
  | zero =>
    intro φ L l1 l2 g0 g1 g2 hI hM b1a b1b b2a b2b hQ
    exfalso
    omega
  | succ n ih =>
    intro φ L l1 l2 g0 g1 g2 hI hM b1a b1b b2a b2b hQ
    refine sf_116_187_v67 g0 g1 g2 ?_
    have e0 := F_Outlook_ticksTillAllSpoke_187_l67_s (φ := φ) (l1 := l1) (l2 := l2) n
    refine ⟨by unfold hi; omega, by unfold hi; omega, fun q1 => ?_, fun q1 => ?_⟩
    · skip
      have e1a := e0.trans (if_pos q1)
      exact hQ (-1 : Int) φ hI (fr_rf) trivial e1a
    · skip
      have e1b := e0.trans (if_neg q1)
      refine sf_117_187 (φ := φ) hI (by omega) (by omega) (fun z3 hp3 hE3 => ⟨rfl, rfl, z3, rfl, ?_⟩)
      have e3 := e1b.trans (bnp_e hE3)
      refine ⟨by unfold hi; omega, fun q4 => ?_, fun q4 => ?_⟩
      · skip
        have e4a := e3.trans (if_pos q4)
        refine sf_91_43_5 (φ := φ) hI  (fun ψ5 hI5 hF5 hE5 => ⟨rfl, rfl, ?_⟩)
        have hG5 : Fr [44, 45, 46, 47, 48, 49, 50, 51, 44000, 44001, 44002, 44003, 44004, 44005] φ ψ5 := fr_tr (fr_rf) hF5 (by decide)
        have e5 := e4a.trans (bnv_e hE5)
        exact ih ψ5 (jm_st1 (jm_st1 L 1 (0, z3)) 2 (0, l2 + 1)) z3 (l2 + 1) (get_st1 (get_st1 g0 (by decide) (fun q => tg2 q.2)) (by decide) (fun q => absurd q.1 (by decide))) (get_st1 get_st1e (by decide) (fun q => tg0 q.2)) get_st1e hI5 (by omega) (by omega) (by omega) (by omega) (by omega) (fun rr χ hIχ hFχ hpχ hEχ => hQ rr χ hIχ (fr_tr hG5 hFχ (by decide)) hpχ (e5.trans hEχ))
      · skip
        have e4b := e3.trans (if_neg q4)
        exact hQ l2 φ hI (fr_rf) trivial e4b
theorem sf_116_187_v4 {sc : List Int} {d : Nat} {φ : hf_F} {x : Nat} {Q : Option jm_V → hf_F → Nat → Prop} {L : jm_L} {l1 l2 : Int} (g0 : jm_get L 0 = some (2, 187)) (g1 : jm_get L 1 = some (0, l1)) (g2 : jm_get L 2 = some (0, l2))
    (H : hi l2 ∧ hi (φ 6 3) ∧ ((φ 6 3) ≤ l2 → hw sc (d + 2) 66 0 [(0, (2, 43)), (1, (2, 17))] [] φ x (fun r ψ2 y2 => y2 = x ∧ (r = none ∧ (hw sc (d + 3) 116 67 (jm_st1 L 2 (0, 0)) [] ψ2 x Q)))) ∧ (¬ (φ 6 3) ≤ l2 → 0 ≤ l2 ∧ l2 < 6 ∧ (hi (φ 20 ((l2).toNat)) ∧ hi (-1 : Int) ∧ ((φ 20 ((l2).toNat)) = (-1 : Int) → hw sc (d + 3) 116 4 (jm_st1 L 2 (0, l2 + 1)) [] φ x Q) ∧ (¬ (φ 20 ((l2).toNat)) = (-1 : Int) → 0 ≤ l2 ∧ l2 < 6 ∧ (hi (φ 21 ((l2).toNat)) ∧ ((φ 21 ((l2).toNat)) ≤ 0 → hw sc (d + 3) 116 4 (jm_st1 L 2 (0, l2 + 1)) [] φ x Q) ∧ (¬ (φ 21 ((l2).toNat)) ≤ 0 → hw sc (d + 3) 116 4 (jm_st1 (jm_st1 L 1 (0, hb_or l1 (hb_shl 1 l2))) 2 (0, l2 + 1)) [] φ x Q)))))) :
    hw sc (d + 3) 116 4 L [] φ x Q := by
  refine hw_ld (b := 2) (e := 0) (by decide +kernel) g2 ?_
  refine hw_ald (b := 0) (e := 0) (by decide +kernel) g0 (by decide) ?_
  refine hr_gr (w := 5) (b := 9) (e := 0) 187 rfl (by decide +kernel) ?_
  refine hr_gr (w := 6) (b := 3) (e := 0) 5 rfl (by decide +kernel) ?_
  refine hw_k (c := 3) (b := 0) (e := 1) (by decide +kernel) ?_
  refine hr_al (b := 0) (a0 := 0) (e := 0) (n := 5) (w := φ 6 3) 6 rfl (by decide +kernel) (by decide) (by decide) (by decide) rfl ?_
  obtain ⟨hz1, hy1, ht1, hf1⟩ := H
  refine hw_if2 (a0 := 0) (b := 3) (e := 54) (by decide +kernel) hz1 hy1 (fun q => ?_) (fun q => ?_)
  · have H := ht1 q
    refine hw_ald (b := 0) (e := 0) (by decide +kernel) g0 (by decide) ?_
    refine hr_gr (w := 43) (b := 9) (e := 2) 187 rfl (by decide +kernel) ?_
    refine hw_ald (b := 0) (e := 0) (by decide +kernel) g0 (by decide) ?_
    refine hr_gr (w := 17) (b := 9) (e := 1) 187 rfl (by decide +kernel) ?_
    refine hr_call (a0 := 14) (b := 66) (e := 2) (nl := 2) (As := [(2, 17)]) (R := []) 43 rfl (by decide +kernel) rfl rfl (Nat.le_of_ble_eq_true rfl) (Nat.le_of_ble_eq_true rfl) ?_
    refine hw_mono H ?_
    rintro r ψ2 y2 ⟨hyx, hr, H⟩
    subst hyx
    subst hr
    refine ⟨hnen, ?_⟩
    show hw sc (d + 3) 116 65 L [] ψ2 y2 Q
    refine hw_k (c := 0) (b := 0) (e := 1) (by decide +kernel) ?_
    refine hw_st (L' := (jm_st1 L 2 (0, 0))) (b := 2) (e := 0) (by decide +kernel) rfl ?_
    exact H
  · have H := hf1 q
    refine hw_ald (b := 0) (e := 0) (by decide +kernel) g0 (by decide) ?_
    refine hr_gr (w := 17) (b := 9) (e := 1) 187 rfl (by decide +kernel) ?_
    refine hr_gr (w := 20) (b := 4) (e := 8) 17 rfl (by decide +kernel) ?_
    refine hw_ld (b := 2) (e := 0) (by decide +kernel) g2 ?_
    obtain ⟨hl3, hu3, H⟩ := H
    refine hr_al (b := 0) (a0 := 0) (e := 0) (n := 6) (w := φ 20 ((l2).toNat)) 20 rfl (by decide +kernel) (by decide) hl3 hu3 rfl ?_
    refine hw_k (c := (-1 : Int)) (b := 0) (e := 1) (by decide +kernel) ?_
    obtain ⟨hz4, hy4, ht4, hf4⟩ := H
    refine hw_if2 (a0 := 0) (b := 0) (e := 48) (by decide +kernel) hz4 hy4 (fun q => ?_) (fun q => ?_)
    · have H := ht4 q
      refine hw_inc (L' := (jm_st1 L 2 (0, l2 + 1))) (c := 1) (b := 2) (e := 0) (by decide +kernel) g2 rfl ?_
      refine hw_goto (a0 := 0) (b := 0) (e := 4) (by decide +kernel) ?_
      exact H
    · have H := hf4 q
      refine hw_ald (b := 0) (e := 0) (by decide +kernel) g0 (by decide) ?_
      refine hr_gr (w := 17) (b := 9) (e := 1) 187 rfl (by decide +kernel) ?_
      refine hr_gr (w := 21) (b := 4) (e := 9) 17 rfl (by decide +kernel) ?_
      refine hw_ld (b := 2) (e := 0) (by decide +kernel) g2 ?_
      obtain ⟨hl5, hu5, H⟩ := H
      refine hr_al (b := 0) (a0 := 0) (e := 0) (n := 6) (w := φ 21 ((l2).toNat)) 21 rfl (by decide +kernel) (by decide) hl5 hu5 rfl ?_
      obtain ⟨hz6, ht6, hf6⟩ := H
      refine hw_if (a0 := 0) (b := 5) (e := 48) (by decide +kernel) hz6 (fun q => ?_) (fun q => ?_)
      · have H := ht6 q
        refine hw_inc (L' := (jm_st1 L 2 (0, l2 + 1))) (c := 1) (b := 2) (e := 0) (by decide +kernel) g2 rfl ?_
        refine hw_goto (a0 := 0) (b := 0) (e := 4) (by decide +kernel) ?_
        exact H
      · have H := hf6 q
        refine hw_ld (b := 1) (e := 0) (by decide +kernel) g1 ?_
        refine hw_k (c := 1) (b := 0) (e := 1) (by decide +kernel) ?_
        refine hw_ld (b := 2) (e := 0) (by decide +kernel) g2 ?_
        refine hw_bin (w := hb_shl 1 l2) (a0 := 0) (b := 6) (e := 0) (by decide +kernel) rfl ?_
        refine hw_bin (w := hb_or l1 (hb_shl 1 l2)) (a0 := 0) (b := 4) (e := 0) (by decide +kernel) rfl ?_
        refine hw_st (L' := (jm_st1 L 1 (0, hb_or l1 (hb_shl 1 l2)))) (b := 1) (e := 0) (by decide +kernel) rfl ?_
        refine hw_inc (L' := (jm_st1 (jm_st1 L 1 (0, hb_or l1 (hb_shl 1 l2))) 2 (0, l2 + 1))) (c := 1) (b := 2) (e := 0) (by decide +kernel) (get_st1 g2 (by decide) (fun q => absurd q.1 (by decide))) rfl ?_
        refine hw_goto (a0 := 0) (b := 0) (e := 4) (by decide +kernel) ?_
        exact H
theorem sf_116_187_l4 {sc : List Int} {d x : Nat} {Q : Option jm_V → hf_F → Nat → Prop} : ∀ (n : Nat) (φ : hf_F) (L : jm_L) (l1 l2 : Int), jm_get L 0 = some (2, 187) → jm_get L 1 = some (0, l1) → jm_get L 2 = some (0, l2) → Inv φ → 6 - l2 < (n : Int) → (-2147483648 : Int) ≤ l1 → l1 ≤ 2147483647 → 0 ≤ l2 → l2 ≤ 6 → (∀ (r : Int) (ψ : hf_F), Inv ψ → Fr [44, 45, 46, 47, 48, 49, 50, 51, 44000, 44001, 44002, 44003, 44004, 44005] φ ψ → True → F_Outlook_ticksTillAllSpoke_187_l4 n φ l1 l2 = (r, ψ) → Q (some (0, r)) ψ x) → hw sc (d + 3) 116 4 L [] φ x Q := by
  intro n
  induction n with
  | zero =>
    intro φ L l1 l2 g0 g1 g2 hI hM b1a b1b b2a b2b hQ
    exfalso
    omega
  | succ n ih =>
    intro φ L l1 l2 g0 g1 g2 hI hM b1a b1b b2a b2b hQ
    refine sf_116_187_v4 g0 g1 g2 ?_
    have e0 := F_Outlook_ticksTillAllSpoke_187_l4_s (φ := φ) (l1 := l1) (l2 := l2) n
    have f1 := iv_at (a := 6) (k := 3) (lo := 0) (u := 6) hI (by decide +kernel)
    refine ⟨by unfold hi; omega, by unfold hi; omega, fun q1 => ?_, fun q1 => ?_⟩
    · skip
      have e1a := e0.trans (if_pos q1)
      refine sf_66_43_17 (φ := φ) hI  (fun ψ2 hI2 hF2 hE2 => ⟨rfl, rfl, ?_⟩)
      have hG2 : Fr [44, 45, 46, 47, 48, 49, 50, 51, 44000, 44001, 44002, 44003, 44004, 44005] φ ψ2 := fr_tr (fr_rf) hF2 (by decide)
      have e2 := e1a.trans (bnv_e hE2)
      exact sf_116_187_l67 ((301 - 0 : Int).toNat + 1) ψ2 (jm_st1 L 2 (0, 0)) l1 0 (get_st1 g0 (by decide) (fun q => absurd q.1 (by decide))) (get_st1 g1 (by decide) (fun q => tg0 q.2)) get_st1e hI2 (by omega) (by omega) (by omega) (by omega) (by omega) (fun rr χ hIχ hFχ hpχ hEχ => hQ rr χ hIχ (fr_tr hG2 hFχ (by decide)) hpχ (e2.trans hEχ))
    · skip
      have e1b := e0.trans (if_neg q1)
      refine ⟨by omega, by omega, ?_⟩
      have f2 := iv_ar (a := 20) (s := 0) (t := 6) (lo := (-1 : Int)) (u := 7) (z := l2) hI (by decide +kernel) (by omega) (by omega)
      refine ⟨by unfold hi; omega, by unfold hi; omega, fun q4 => ?_, fun q4 => ?_⟩
      · skip
        have e4a := e1b.trans (if_pos q4)
        exact ih φ (jm_st1 L 2 (0, l2 + 1)) l1 (l2 + 1) (get_st1 g0 (by decide) (fun q => absurd q.1 (by decide))) (get_st1 g1 (by decide) (fun q => tg0 q.2)) get_st1e hI (by omega) (by omega) (by omega) (by omega) (by omega) (fun rr χ hIχ hFχ hpχ hEχ => hQ rr χ hIχ (fr_tr (fr_rf) hFχ (by decide)) hpχ (e4a.trans hEχ))
      · skip
        have e4b := e1b.trans (if_neg q4)
        refine ⟨by omega, by omega, ?_⟩
        have f3 := iv_ar (a := 21) (s := 0) (t := 6) (lo := 0) (u := 6) (z := l2) hI (by decide +kernel) (by omega) (by omega)
        refine ⟨by unfold hi; omega, fun q6 => ?_, fun q6 => ?_⟩
        · skip
          have e6a := e4b.trans (if_pos q6)
          exact ih φ (jm_st1 L 2 (0, l2 + 1)) l1 (l2 + 1) (get_st1 g0 (by decide) (fun q => absurd q.1 (by decide))) (get_st1 g1 (by decide) (fun q => tg0 q.2)) get_st1e hI (by omega) (by omega) (by omega) (by omega) (by omega) (fun rr χ hIχ hFχ hpχ hEχ => hQ rr χ hIχ (fr_tr (fr_rf) hFχ (by decide)) hpχ (e6a.trans hEχ))
        · skip
          have e6b := e4b.trans (if_neg q6)
          have f4 := hr_shl1 l2
          have f5 := hr_shl 1 l2
          have f6 := hr_or l1 (hb_shl 1 l2)
          exact ih φ (jm_st1 (jm_st1 L 1 (0, hb_or l1 (hb_shl 1 l2))) 2 (0, l2 + 1)) (hb_or l1 (hb_shl 1 l2)) (l2 + 1) (get_st1 (get_st1 g0 (by decide) (fun q => tg2 q.2)) (by decide) (fun q => absurd q.1 (by decide))) (get_st1 get_st1e (by decide) (fun q => tg0 q.2)) get_st1e hI (by omega) (by omega) (by omega) (by omega) (by omega) (fun rr χ hIχ hFχ hpχ hEχ => hQ rr χ hIχ (fr_tr (fr_rf) hFχ (by decide)) hpχ (e6b.trans hEχ))
theorem sf_116_187_v {sc : List Int} {d : Nat} {φ : hf_F} {x : Nat} {Q : Option jm_V → hf_F → Nat → Prop} 
    (H : hw sc (d + 3) 116 4 (jm_st1 (jm_st1 [(0, (2, 187))] 1 (0, 0)) 2 (0, 0)) [] φ x Q) :
    hw sc (d + 3) 116 0 [(0, (2, 187))] [] φ x Q := by
  refine hw_k (c := 0) (b := 0) (e := 1) (by decide +kernel) ?_
  refine hw_st (L' := (jm_st1 [(0, (2, 187))] 1 (0, 0))) (b := 1) (e := 0) (by decide +kernel) rfl ?_
  refine hw_k (c := 0) (b := 0) (e := 1) (by decide +kernel) ?_
  refine hw_st (L' := (jm_st1 (jm_st1 [(0, (2, 187))] 1 (0, 0)) 2 (0, 0))) (b := 2) (e := 0) (by decide +kernel) rfl ?_
  exact H
theorem sf_116_187 {sc : List Int} {d : Nat} {φ : hf_F} {x : Nat} {Q : Option jm_V → hf_F → Nat → Prop}  (hI : Inv φ)  (hQ : ∀ (r : Int) (ψ : hf_F), Inv ψ → Fr [44, 45, 46, 47, 48, 49, 50, 51, 44000, 44001, 44002, 44003, 44004, 44005] φ ψ → True → F_Outlook_ticksTillAllSpoke_187 φ = (r, ψ) → Q (some (0, r)) ψ x) : hw sc (d + 3) 116 0 [(0, (2, 187))] [] φ x Q := by
  apply sf_116_187_v
  have e0 : F_Outlook_ticksTillAllSpoke_187 φ = _ := rfl
  exact sf_116_187_l4 ((6 - 0 : Int).toNat + 1) φ (jm_st1 (jm_st1 [(0, (2, 187))] 1 (0, 0)) 2 (0, 0)) 0 0 (get_st1 (get_st1 rfl (by decide) (fun q => tg2 q.2)) (by decide) (fun q => absurd q.1 (by decide))) (get_st1 get_st1e (by decide) (fun q => tg0 q.2)) get_st1e hI (by omega) (by omega) (by omega) (by omega) (by omega) (fun rr χ hIχ hFχ hpχ hEχ => hQ rr χ hIχ (fr_tr (fr_rf) hFχ (by decide)) hpχ (e0.trans hEχ))
theorem sf_115_0_v {sc : List Int} {d : Nat} {φ : hf_F} {x : Nat} {Q : Option jm_V → hf_F → Nat → Prop} 
    (H : hw sc (d + 3) 116 0 [(0, (2, 187))] [] φ x (fun r ψ1 y1 => y1 = x ∧ (∃ z1 : Int, r = some (0, z1) ∧ (Q (some (0, z1)) ψ1 x)))) :
    hw sc (d + 4) 115 0 [(0, (2, 0))] [] φ x Q := by
  refine hw_ald (b := 0) (e := 0) (by decide +kernel) rfl (by decide) ?_
  refine hr_gr (w := 187) (b := 0) (e := 8) 0 rfl (by decide +kernel) ?_
  refine hr_call (a0 := 19) (b := 116) (e := 1) (nl := 3) (As := []) (R := []) 187 rfl (by decide +kernel) rfl rfl (Nat.le_of_ble_eq_true rfl) (Nat.le_of_ble_eq_true rfl) ?_
  refine hw_mono H ?_
  rintro r ψ1 y1 ⟨hyx, z1, hr, H⟩
  subst hyx
  subst hr
  refine ⟨hne0, ?_⟩
  show hw sc (d + 4) 115 7 [(0, (2, 0))] [(0, z1)] ψ1 y1 Q
  exact hw_ret (a0 := 0) (e := 0) (by decide +kernel) (Or.inl rfl) H
theorem sf_115_0 {sc : List Int} {d : Nat} {φ : hf_F} {x : Nat} {Q : Option jm_V → hf_F → Nat → Prop}  (hI : Inv φ)  (hQ : ∀ (r : Int) (ψ : hf_F), Inv ψ → Fr [44, 45, 46, 47, 48, 49, 50, 51, 44000, 44001, 44002, 44003, 44004, 44005] φ ψ → True → F_RideLaws_all_0 φ = (r, ψ) → Q (some (0, r)) ψ x) : hw sc (d + 4) 115 0 [(0, (2, 0))] [] φ x Q := by
  apply sf_115_0_v
  have e0 : F_RideLaws_all_0 φ = _ := rfl
  refine sf_116_187 (φ := φ) hI  (fun z1 ψ1 hI1 hF1 hp1 hE1 => ⟨rfl, z1, rfl, ?_⟩)
  have hG1 : Fr [44, 45, 46, 47, 48, 49, 50, 51, 44000, 44001, 44002, 44003, 44004, 44005] φ ψ1 := fr_tr (fr_rf) hF1 (by decide)
  have e1 := e0.trans (bnd_e hE1)
  exact hQ z1 ψ1 hI1 hG1 trivial e1
theorem sf_167_0_v {sc : List Int} {d : Nat} {φ : hf_F} {x : Nat} {Q : Option jm_V → hf_F → Nat → Prop} {v1 v2 : Int}
    (H : hw sc d 70 0 [(0, (2, 0)), (1, (0, 3)), (2, (0, v1))] [] φ x (fun r ψ1 y1 => y1 = x ∧ φ = ψ1 ∧ (∃ z1 : Int, r = some (0, z1) ∧ (hi z1 ∧ (z1 = 0 → 10 ≤ (d + 1) ∧ Q (some (9, 0)) φ (x + 1)) ∧ (¬ z1 = 0 → ((jm_n (φ 17 4)) = 0 → 10 ≤ (d + 1) ∧ Q (some (9, 0)) φ (x + 1)) ∧ (¬ (jm_n (φ 17 4)) = 0 → hi v2 ∧ (v2 < 0 → 10 ≤ (d + 1) ∧ Q (some (9, 0)) φ (x + 1)) ∧ (¬ v2 < 0 → hi v2 ∧ hi 1 ∧ (v2 ≤ 1 → 0 ≤ v1 ∧ v1 < 6 ∧ (hw sc d 165 0 [(0, (0, φ 24 ((v1).toNat))), (1, (0, φ 17 4)), (2, (0, v2))] [] φ x (fun r ψ10 y10 => y10 = x ∧ φ = ψ10 ∧ (∃ z10 : Int, r = some (0, z10) ∧ (Q (some (0, z10)) φ x))))) ∧ (¬ v2 ≤ 1 → 10 ≤ (d + 1) ∧ Q (some (9, 0)) φ (x + 1))))))))) :
    hw sc (d + 1) 167 0 [(0, (2, 0)), (1, (0, v1)), (2, (0, v2))] [] φ x Q := by
  refine hw_ald (b := 0) (e := 0) (by decide +kernel) rfl (by decide) ?_
  refine hw_k (c := 3) (b := 0) (e := 1) (by decide +kernel) ?_
  refine hw_ld (b := 1) (e := 0) (by decide +kernel) rfl ?_
  refine hr_call (a0 := 10) (b := 70) (e := 3) (nl := 3) (As := [(0, 3), (0, v1)]) (R := []) 0 rfl (by decide +kernel) rfl rfl (Nat.le_of_ble_eq_true rfl) (Nat.le_of_ble_eq_true rfl) ?_
  refine hw_mono H ?_
  rintro r ψ1 y1 ⟨hyx, hψx, z1, hr, H⟩
  subst hyx
  subst hψx
  subst hr
  refine ⟨hne0, ?_⟩
  show hw sc (d + 1) 167 6 [(0, (2, 0)), (1, (0, v1)), (2, (0, v2))] [(0, z1)] φ y1 Q
  obtain ⟨hz2, ht2, hf2⟩ := H
  refine hw_if (a0 := 0) (b := 0) (e := 31) (by decide +kernel) hz2 (fun q => ?_) (fun q => ?_)
  · have H := ht2 q
    exact hw_thr (a0 := 0) (b := 7) (e := 1) (by decide +kernel) H.1 (Nat.le_of_ble_eq_true rfl) H.2
  · have H := hf2 q
    refine hw_ald (b := 0) (e := 0) (by decide +kernel) rfl (by decide) ?_
    refine hr_gr (w := 4) (b := 0) (e := 1) 0 rfl (by decide +kernel) ?_
    refine hr_gr (w := 17) (b := 2) (e := 1) 4 rfl (by decide +kernel) ?_
    refine hr_gi (w := φ 17 4) (b := 4) (e := 4) 17 rfl (by decide +kernel) rfl ?_
    obtain ⟨ht4, hf4⟩ := H
    refine hw_ifn (a0 := 0) (b := 0) (e := 31) (by decide +kernel) (fun q => ?_) (fun q => ?_)
    · have H := ht4 q
      exact hw_thr (a0 := 0) (b := 7) (e := 1) (by decide +kernel) H.1 (Nat.le_of_ble_eq_true rfl) H.2
    · have H := hf4 q
      refine hw_ld (b := 2) (e := 0) (by decide +kernel) rfl ?_
      obtain ⟨hz6, ht6, hf6⟩ := H
      refine hw_if (a0 := 0) (b := 2) (e := 31) (by decide +kernel) hz6 (fun q => ?_) (fun q => ?_)
      · have H := ht6 q
        exact hw_thr (a0 := 0) (b := 7) (e := 1) (by decide +kernel) H.1 (Nat.le_of_ble_eq_true rfl) H.2
      · have H := hf6 q
        refine hw_ld (b := 2) (e := 0) (by decide +kernel) rfl ?_
        refine hw_k (c := 1) (b := 0) (e := 1) (by decide +kernel) ?_
        obtain ⟨hz8, hy8, ht8, hf8⟩ := H
        refine hw_if2 (a0 := 0) (b := 5) (e := 42) (by decide +kernel) hz8 hy8 (fun q => ?_) (fun q => ?_)
        · have H := ht8 q
          refine hw_ald (b := 0) (e := 0) (by decide +kernel) rfl (by decide) ?_
          refine hr_gr (w := 4) (b := 0) (e := 1) 0 rfl (by decide +kernel) ?_
          refine hr_gr (w := 17) (b := 2) (e := 1) 4 rfl (by decide +kernel) ?_
          refine hr_gr (w := 24) (b := 4) (e := 12) 17 rfl (by decide +kernel) ?_
          refine hw_ld (b := 1) (e := 0) (by decide +kernel) rfl ?_
          obtain ⟨hl9, hu9, H⟩ := H
          refine hr_al (b := 0) (a0 := 0) (e := 0) (n := 6) (w := φ 24 ((v1).toNat)) 24 rfl (by decide +kernel) (by decide) hl9 hu9 rfl ?_
          refine hw_ald (b := 0) (e := 0) (by decide +kernel) rfl (by decide) ?_
          refine hr_gr (w := 4) (b := 0) (e := 1) 0 rfl (by decide +kernel) ?_
          refine hr_gr (w := 17) (b := 2) (e := 1) 4 rfl (by decide +kernel) ?_
          refine hr_gi (w := φ 17 4) (b := 4) (e := 4) 17 rfl (by decide +kernel) rfl ?_
          refine hw_ld (b := 2) (e := 0) (by decide +kernel) rfl ?_
          refine hr_calls (b := 165) (e := 3) (nl := 7) (As := [(0, φ 24 ((v1).toNat)), (0, φ 17 4), (0, v2)]) (R := []) (by decide +kernel) rfl rfl (Nat.le_of_ble_eq_true rfl) (Nat.le_of_ble_eq_true rfl) ?_
          refine hw_mono H ?_
          rintro r ψ10 y10 ⟨hyx, hψx, z10, hr, H⟩
          subst hyx
          subst hψx
          subst hr
          refine ⟨hne0, ?_⟩
          show hw sc (d + 1) 167 68 [(0, (2, 0)), (1, (0, v1)), (2, (0, v2))] [(0, z10)] φ y10 Q
          exact hw_ret (a0 := 0) (e := 0) (by decide +kernel) (Or.inl rfl) H
        · have H := hf8 q
          exact hw_thr (a0 := 0) (b := 7) (e := 1) (by decide +kernel) H.1 (Nat.le_of_ble_eq_true rfl) H.2
theorem sf_167_0 {sc : List Int} {d : Nat} {φ : hf_F} {x : Nat} {Q : Option jm_V → hf_F → Nat → Prop} {v1 v2 : Int} (hI : Inv φ) (h1a : (-2147483648 : Int) ≤ v1) (h1b : v1 ≤ 2147483647) (h2a : (-2147483648 : Int) ≤ v2) (h2b : v2 ≤ 2147483647) (hd : 10 ≤ (d + 1)) (hT : ∀ ψ : hf_F, Inv ψ → Fr [] φ ψ → F_RideLaws_part_0 φ v1 v2 = none → Q (some (9, 0)) ψ (x + 1)) (hQ : ∀ (r : Int), True → F_RideLaws_part_0 φ v1 v2 = some r → Q (some (0, r)) φ x) : hw sc (d + 1) 167 0 [(0, (2, 0)), (1, (0, v1)), (2, (0, v2))] [] φ x Q := by
  apply sf_167_0_v
  have e0 : F_RideLaws_part_0 φ v1 v2 = _ := rfl
  refine sf_70_0_k1_3 (φ := φ) hI (by omega) (by omega) (fun z1 hp1 hE1 => ⟨rfl, rfl, z1, rfl, ?_⟩)
  have e1 := e0.trans (bnp_e hE1)
  have f1 := iv_at (a := 6) (k := 3) (lo := 0) (u := 6) hI (by decide +kernel)
  refine ⟨by unfold hi; omega, fun q2 => ?_, fun q2 => ?_⟩
  · skip
    have e2a := e1.trans (if_pos q2)
    exact ⟨hd, hT φ hI (fr_rf) e2a⟩
  · skip
    have e2b := e1.trans (if_neg q2)
    have f2 := hr_n (φ 17 4)
    refine ⟨fun q4 => ?_, fun q4 => ?_⟩
    · skip
      have e4a := e2b.trans (if_pos q4)
      exact ⟨hd, hT φ hI (fr_rf) e4a⟩
    · skip
      have e4b := e2b.trans (if_neg q4)
      refine ⟨by unfold hi; omega, fun q6 => ?_, fun q6 => ?_⟩
      · skip
        have e6a := e4b.trans (if_pos q6)
        exact ⟨hd, hT φ hI (fr_rf) e6a⟩
      · skip
        have e6b := e4b.trans (if_neg q6)
        refine ⟨by unfold hi; omega, by unfold hi; omega, fun q8 => ?_, fun q8 => ?_⟩
        · skip
          have e8a := e6b.trans (if_pos q8)
          refine ⟨by omega, by omega, ?_⟩
          refine sf_165 (φ := φ) hI (by omega) (by omega) (fun z10 hp10 hE10 => ⟨rfl, rfl, z10, rfl, ?_⟩)
          have e10 := e8a.trans (bnp_e hE10)
          exact hQ z10 trivial e10
        · skip
          have e8b := e6b.trans (if_neg q8)
          exact ⟨hd, hT φ hI (fr_rf) e8b⟩
theorem sf_118_0_v19 {sc : List Int} {d : Nat} {φ : hf_F} {x : Nat} {Q : Option jm_V → hf_F → Nat → Prop} {L : jm_L} {l1 l2 : Int} (g0 : jm_get L 0 = some (2, 0)) (g1 : jm_get L 1 = some (0, l1)) (g2 : jm_get L 2 = some (0, l2))
    (H : hi l2 ∧ hi (φ 6 3) ∧ ((φ 6 3) ≤ l2 → Q (some (0, l1)) φ x) ∧ (¬ (φ 6 3) ≤ l2 → 0 ≤ l2 ∧ l2 < 6 ∧ (0 ≤ l1 ∧ l1 < 6 ∧ (((jm_n (φ 24 ((l2).toNat))) ≤ (jm_n (φ 24 ((l1).toNat))) → hw sc d 118 19 (jm_st1 L 2 (0, l2 + 1)) [] φ x Q) ∧ (¬ (jm_n (φ 24 ((l2).toNat))) ≤ (jm_n (φ 24 ((l1).toNat))) → hw sc d 118 19 (jm_st1 (jm_st1 L 1 (0, l2)) 2 (0, l2 + 1)) [] φ x Q))))) :
    hw sc d 118 19 L [] φ x Q := by
  refine hw_ld (b := 2) (e := 0) (by decide +kernel) g2 ?_
  refine hw_ald (b := 0) (e := 0) (by decide +kernel) g0 (by decide) ?_
  refine hr_gr (w := 4) (b := 0) (e := 1) 0 rfl (by decide +kernel) ?_
  refine hr_gr (w := 5) (b := 2) (e := 0) 4 rfl (by decide +kernel) ?_
  refine hr_gr (w := 6) (b := 3) (e := 0) 5 rfl (by decide +kernel) ?_
  refine hw_k (c := 3) (b := 0) (e := 1) (by decide +kernel) ?_
  refine hr_al (b := 0) (a0 := 0) (e := 0) (n := 5) (w := φ 6 3) 6 rfl (by decide +kernel) (by decide) (by decide) (by decide) rfl ?_
  obtain ⟨hz1, hy1, ht1, hf1⟩ := H
  refine hw_if2 (a0 := 0) (b := 3) (e := 70) (by decide +kernel) hz1 hy1 (fun q => ?_) (fun q => ?_)
  · have H := ht1 q
    refine hw_ld (b := 1) (e := 0) (by decide +kernel) g1 ?_
    exact hw_ret (a0 := 0) (e := 0) (by decide +kernel) (Or.inl rfl) H
  · have H := hf1 q
    refine hw_ald (b := 0) (e := 0) (by decide +kernel) g0 (by decide) ?_
    refine hr_gr (w := 4) (b := 0) (e := 1) 0 rfl (by decide +kernel) ?_
    refine hr_gr (w := 17) (b := 2) (e := 1) 4 rfl (by decide +kernel) ?_
    refine hr_gr (w := 24) (b := 4) (e := 12) 17 rfl (by decide +kernel) ?_
    refine hw_ld (b := 2) (e := 0) (by decide +kernel) g2 ?_
    obtain ⟨hl3, hu3, H⟩ := H
    refine hr_al (b := 0) (a0 := 0) (e := 0) (n := 6) (w := φ 24 ((l2).toNat)) 24 rfl (by decide +kernel) (by decide) hl3 hu3 rfl ?_
    refine hw_ald (b := 0) (e := 0) (by decide +kernel) g0 (by decide) ?_
    refine hr_gr (w := 4) (b := 0) (e := 1) 0 rfl (by decide +kernel) ?_
    refine hr_gr (w := 17) (b := 2) (e := 1) 4 rfl (by decide +kernel) ?_
    refine hr_gr (w := 24) (b := 4) (e := 12) 17 rfl (by decide +kernel) ?_
    refine hw_ld (b := 1) (e := 0) (by decide +kernel) g1 ?_
    obtain ⟨hl4, hu4, H⟩ := H
    refine hr_al (b := 0) (a0 := 0) (e := 0) (n := 6) (w := φ 24 ((l1).toNat)) 24 rfl (by decide +kernel) (by decide) hl4 hu4 rfl ?_
    obtain ⟨ht5, hf5⟩ := H
    refine hw_if2n (a0 := 0) (b := 5) (e := 64) (by decide +kernel) (fun q => ?_) (fun q => ?_)
    · have H := ht5 q
      refine hw_inc (L' := (jm_st1 L 2 (0, l2 + 1))) (c := 1) (b := 2) (e := 0) (by decide +kernel) g2 rfl ?_
      refine hw_goto (a0 := 0) (b := 0) (e := 19) (by decide +kernel) ?_
      exact H
    · have H := hf5 q
      refine hw_ld (b := 2) (e := 0) (by decide +kernel) g2 ?_
      refine hw_st (L' := (jm_st1 L 1 (0, l2))) (b := 1) (e := 0) (by decide +kernel) rfl ?_
      refine hw_inc (L' := (jm_st1 (jm_st1 L 1 (0, l2)) 2 (0, l2 + 1))) (c := 1) (b := 2) (e := 0) (by decide +kernel) (get_st1 g2 (by decide) (fun q => absurd q.1 (by decide))) rfl ?_
      refine hw_goto (a0 := 0) (b := 0) (e := 19) (by decide +kernel) ?_
      exact H
theorem sf_118_0_l19 {sc : List Int} {d x : Nat} {Q : Option jm_V → hf_F → Nat → Prop} : ∀ (n : Nat) (φ : hf_F) (L : jm_L) (l1 l2 : Int), jm_get L 0 = some (2, 0) → jm_get L 1 = some (0, l1) → jm_get L 2 = some (0, l2) → Inv φ → 6 - l2 < (n : Int) → 0 ≤ l1 → l1 ≤ 5 → 1 ≤ l2 → l2 ≤ 6 → (∀ (r : Int), True → F_RideLaws_most_0_l19 n φ l1 l2 = r → Q (some (0, r)) φ x) → hw sc d 118 19 L [] φ x Q := by
  intro n
  induction n with
  | zero =>
    intro φ L l1 l2 g0 g1 g2 hI hM b1a b1b b2a b2b hQ
    exfalso
    omega
  | succ n ih =>
    intro φ L l1 l2 g0 g1 g2 hI hM b1a b1b b2a b2b hQ
    refine sf_118_0_v19 g0 g1 g2 ?_
    have e0 := F_RideLaws_most_0_l19_s (φ := φ) (l1 := l1) (l2 := l2) n
    have f1 := iv_at (a := 6) (k := 3) (lo := 0) (u := 6) hI (by decide +kernel)
    refine ⟨by unfold hi; omega, by unfold hi; omega, fun q1 => ?_, fun q1 => ?_⟩
    · skip
      have e1a := e0.trans (if_pos q1)
      exact hQ l1 trivial e1a
    · skip
      have e1b := e0.trans (if_neg q1)
      refine ⟨by omega, by omega, ?_⟩
      refine ⟨by omega, by omega, ?_⟩
      have f2 := hr_n (φ 24 ((l2).toNat))
      have f3 := hr_n (φ 24 ((l1).toNat))
      refine ⟨fun q5 => ?_, fun q5 => ?_⟩
      · skip
        have e5a := e1b.trans (if_pos q5)
        exact ih φ (jm_st1 L 2 (0, l2 + 1)) l1 (l2 + 1) (get_st1 g0 (by decide) (fun q => absurd q.1 (by decide))) (get_st1 g1 (by decide) (fun q => tg0 q.2)) get_st1e hI (by omega) (by omega) (by omega) (by omega) (by omega) (fun rr hpχ hEχ => hQ rr hpχ (e5a.trans hEχ))
      · skip
        have e5b := e1b.trans (if_neg q5)
        exact ih φ (jm_st1 (jm_st1 L 1 (0, l2)) 2 (0, l2 + 1)) l2 (l2 + 1) (get_st1 (get_st1 g0 (by decide) (fun q => tg2 q.2)) (by decide) (fun q => absurd q.1 (by decide))) (get_st1 get_st1e (by decide) (fun q => tg0 q.2)) get_st1e hI (by omega) (by omega) (by omega) (by omega) (by omega) (fun rr hpχ hEχ => hQ rr hpχ (e5b.trans hEχ))
theorem sf_118_0_v {sc : List Int} {d : Nat} {φ : hf_F} {x : Nat} {Q : Option jm_V → hf_F → Nat → Prop} 
    (H : (¬ (jm_n (φ 17 4)) = 0 → hw sc d 118 19 (jm_st1 (jm_st1 [(0, (2, 0))] 1 (0, 0)) 2 (0, 1)) [] φ x Q) ∧ (¬ (¬ (jm_n (φ 17 4)) = 0) → Q (some (0, (-1 : Int))) φ x)) :
    hw sc d 118 0 [(0, (2, 0))] [] φ x Q := by
  refine hw_ald (b := 0) (e := 0) (by decide +kernel) rfl (by decide) ?_
  refine hr_gr (w := 4) (b := 0) (e := 1) 0 rfl (by decide +kernel) ?_
  refine hr_gr (w := 17) (b := 2) (e := 1) 4 rfl (by decide +kernel) ?_
  refine hr_gi (w := φ 17 4) (b := 4) (e := 4) 17 rfl (by decide +kernel) rfl ?_
  obtain ⟨ht1, hf1⟩ := H
  refine hw_ifn (a0 := 0) (b := 1) (e := 15) (by decide +kernel) (fun q => ?_) (fun q => ?_)
  · have H := ht1 q
    refine hw_k (c := 0) (b := 0) (e := 1) (by decide +kernel) ?_
    refine hw_st (L' := (jm_st1 [(0, (2, 0))] 1 (0, 0))) (b := 1) (e := 0) (by decide +kernel) rfl ?_
    refine hw_k (c := 1) (b := 0) (e := 1) (by decide +kernel) ?_
    refine hw_st (L' := (jm_st1 (jm_st1 [(0, (2, 0))] 1 (0, 0)) 2 (0, 1))) (b := 2) (e := 0) (by decide +kernel) rfl ?_
    exact H
  · have H := hf1 q
    refine hw_k (c := (-1 : Int)) (b := 0) (e := 1) (by decide +kernel) ?_
    exact hw_ret (a0 := 0) (e := 0) (by decide +kernel) (Or.inl rfl) H
theorem sf_118_0 {sc : List Int} {d : Nat} {φ : hf_F} {x : Nat} {Q : Option jm_V → hf_F → Nat → Prop}  (hI : Inv φ)  (hQ : ∀ (r : Int), True → F_RideLaws_most_0 φ = r → Q (some (0, r)) φ x) : hw sc d 118 0 [(0, (2, 0))] [] φ x Q := by
  apply sf_118_0_v
  have e0 : F_RideLaws_most_0 φ = _ := rfl
  have f1 := hr_n (φ 17 4)
  refine ⟨fun q1 => ?_, fun q1 => ?_⟩
  · skip
    have e1a := e0.trans (if_pos q1)
    exact sf_118_0_l19 ((6 - 1 : Int).toNat + 1) φ (jm_st1 (jm_st1 [(0, (2, 0))] 1 (0, 0)) 2 (0, 1)) 0 1 (get_st1 (get_st1 rfl (by decide) (fun q => tg2 q.2)) (by decide) (fun q => absurd q.1 (by decide))) (get_st1 get_st1e (by decide) (fun q => tg0 q.2)) get_st1e hI (by omega) (by omega) (by omega) (by omega) (by omega) (fun rr hpχ hEχ => hQ rr hpχ (e1a.trans hEχ))
  · skip
    have e1b := e0.trans (if_neg q1)
    exact hQ (-1 : Int) trivial e1b
theorem sf_129_17_v {sc : List Int} {d : Nat} {φ : hf_F} {x : Nat} {Q : Option jm_V → hf_F → Nat → Prop} {v1 v2 : Int}
    (H : hw sc d 83 0 [(0, (2, 17)), (1, (0, v1))] [] φ x (fun r ψ1 y1 => y1 = x ∧ φ = ψ1 ∧ (∃ z1 : Int, r = some (0, z1) ∧ (hi z1 ∧ (¬ z1 = 0 → hw sc d 79 0 [(0, (2, 17)), (1, (0, v1)), (2, (0, v2))] [] φ x (fun r ψ3 y3 => y3 = x ∧ φ = ψ3 ∧ (∃ z3 : Int, r = some (0, z3) ∧ (hi z3 ∧ (¬ z3 = 0 → Q none φ x) ∧ (¬ (¬ z3 = 0) → hw sc d 52 0 [(0, (2, 17)), (1, (0, v1)), (2, (0, v2))] [] φ x (fun r ψ6 y6 => y6 = x ∧ (r = none ∧ (Q none ψ6 x)))))))) ∧ (¬ (¬ z1 = 0) → hw sc d 84 0 [(0, (2, 17)), (1, (0, v1))] [] φ x (fun r ψ8 y8 => y8 = x ∧ (r = none ∧ (Q none ψ8 x)))))))) :
    hw sc (d + 1) 129 0 [(0, (2, 17)), (1, (0, v1)), (2, (0, v2))] [] φ x Q := by
  refine hw_ald (b := 0) (e := 0) (by decide +kernel) rfl (by decide) ?_
  refine hw_ld (b := 1) (e := 0) (by decide +kernel) rfl ?_
  refine hr_call (a0 := 14) (b := 83) (e := 2) (nl := 2) (As := [(0, v1)]) (R := []) 17 rfl (by decide +kernel) rfl rfl (Nat.le_of_ble_eq_true rfl) (Nat.le_of_ble_eq_true rfl) ?_
  refine hw_mono H ?_
  rintro r ψ1 y1 ⟨hyx, hψx, z1, hr, H⟩
  subst hyx
  subst hψx
  subst hr
  refine ⟨hne0, ?_⟩
  show hw sc (d + 1) 129 5 [(0, (2, 17)), (1, (0, v1)), (2, (0, v2))] [(0, z1)] φ y1 Q
  obtain ⟨hz2, ht2, hf2⟩ := H
  refine hw_if (a0 := 0) (b := 1) (e := 16) (by decide +kernel) hz2 (fun q => ?_) (fun q => ?_)
  · have H := ht2 q
    refine hw_ald (b := 0) (e := 0) (by decide +kernel) rfl (by decide) ?_
    refine hw_ld (b := 1) (e := 0) (by decide +kernel) rfl ?_
    refine hw_ld (b := 2) (e := 0) (by decide +kernel) rfl ?_
    refine hr_call (a0 := 14) (b := 79) (e := 3) (nl := 3) (As := [(0, v1), (0, v2)]) (R := []) 17 rfl (by decide +kernel) rfl rfl (Nat.le_of_ble_eq_true rfl) (Nat.le_of_ble_eq_true rfl) ?_
    refine hw_mono H ?_
    rintro r ψ3 y3 ⟨hyx, hψx, z3, hr, H⟩
    subst hyx
    subst hψx
    subst hr
    refine ⟨hne0, ?_⟩
    show hw sc (d + 1) 129 22 [(0, (2, 17)), (1, (0, v1)), (2, (0, v2))] [(0, z3)] φ y3 Q
    obtain ⟨hz4, ht4, hf4⟩ := H
    refine hw_if (a0 := 0) (b := 1) (e := 31) (by decide +kernel) hz4 (fun q => ?_) (fun q => ?_)
    · have H := ht4 q
      exact hw_vret (a0 := 0) (e := 0) (by decide +kernel) H
    · have H := hf4 q
      refine hw_ald (b := 0) (e := 0) (by decide +kernel) rfl (by decide) ?_
      refine hw_ld (b := 1) (e := 0) (by decide +kernel) rfl ?_
      refine hw_ld (b := 2) (e := 0) (by decide +kernel) rfl ?_
      refine hr_call (a0 := 14) (b := 52) (e := 3) (nl := 3) (As := [(0, v1), (0, v2)]) (R := []) 17 rfl (by decide +kernel) rfl rfl (Nat.le_of_ble_eq_true rfl) (Nat.le_of_ble_eq_true rfl) ?_
      refine hw_mono H ?_
      rintro r ψ6 y6 ⟨hyx, hr, H⟩
      subst hyx
      subst hr
      refine ⟨hnen, ?_⟩
      show hw sc (d + 1) 129 31 [(0, (2, 17)), (1, (0, v1)), (2, (0, v2))] [] ψ6 y6 Q
      exact hw_vret (a0 := 0) (e := 0) (by decide +kernel) H
  · have H := hf2 q
    refine hw_ald (b := 0) (e := 0) (by decide +kernel) rfl (by decide) ?_
    refine hw_ld (b := 1) (e := 0) (by decide +kernel) rfl ?_
    refine hr_call (a0 := 14) (b := 84) (e := 2) (nl := 3) (As := [(0, v1)]) (R := []) 17 rfl (by decide +kernel) rfl rfl (Nat.le_of_ble_eq_true rfl) (Nat.le_of_ble_eq_true rfl) ?_
    refine hw_mono H ?_
    rintro r ψ8 y8 ⟨hyx, hr, H⟩
    subst hyx
    subst hr
    refine ⟨hnen, ?_⟩
    show hw sc (d + 1) 129 13 [(0, (2, 17)), (1, (0, v1)), (2, (0, v2))] [] ψ8 y8 Q
    refine hw_goto (a0 := 0) (b := 0) (e := 31) (by decide +kernel) ?_
    exact hw_vret (a0 := 0) (e := 0) (by decide +kernel) H
theorem sf_129_17 {sc : List Int} {d : Nat} {φ : hf_F} {x : Nat} {Q : Option jm_V → hf_F → Nat → Prop} {v1 v2 : Int} (hI : Inv φ) (h1a : 0 ≤ v1) (h1b : v1 ≤ 5) (h2a : 0 ≤ v2) (h2b : v2 ≤ 7) (hQ : ∀ ψ : hf_F, Inv ψ → Fr [19, 20] φ ψ → F_State_mountOrAlight_17 φ v1 v2 = ψ → Q none ψ x) : hw sc (d + 1) 129 0 [(0, (2, 17)), (1, (0, v1)), (2, (0, v2))] [] φ x Q := by
  apply sf_129_17_v
  have e0 : F_State_mountOrAlight_17 φ v1 v2 = _ := rfl
  refine sf_83_17 (φ := φ) hI (by omega) (by omega) (fun z1 hp1 hE1 => ⟨rfl, rfl, z1, rfl, ?_⟩)
  have e1 := e0.trans (bnp_e hE1)
  refine ⟨by unfold hi; omega, fun q2 => ?_, fun q2 => ?_⟩
  · skip
    have e2a := e1.trans (if_pos q2)
    refine sf_79_17 (φ := φ) hI (by omega) (by omega) (by omega) (by omega) (fun z3 hp3 hE3 => ⟨rfl, rfl, z3, rfl, ?_⟩)
    have e3 := e2a.trans (bnp_e hE3)
    refine ⟨by unfold hi; omega, fun q4 => ?_, fun q4 => ?_⟩
    · skip
      have e4a := e3.trans (if_pos q4)
      exact hQ φ hI (fr_rf) e4a
    · skip
      have e4b := e3.trans (if_neg q4)
      refine sf_52_17 (φ := φ) hI (by omega) (by omega) (by omega) (by omega) (fun ψ6 hI6 hF6 hE6 => ⟨rfl, rfl, ?_⟩)
      have hG6 : Fr [19, 20] φ ψ6 := fr_tr (fr_rf) hF6 (by decide)
      have e6 := e4b.trans (bnv_e hE6)
      exact hQ ψ6 hI6 hG6 e6
  · skip
    have e2b := e1.trans (if_neg q2)
    refine sf_84_17 (φ := φ) hI (by omega) (by omega) (fun ψ8 hI8 hF8 hE8 => ⟨rfl, rfl, ?_⟩)
    have hG8 : Fr [19, 20] φ ψ8 := fr_tr (fr_rf) hF8 (by decide)
    have e8 := e2b.trans (bnv_e hE8)
    exact hQ ψ8 hI8 hG8 e8
theorem sf_127_17_5_188_v {sc : List Int} {d : Nat} {φ : hf_F} {x : Nat} {Q : Option jm_V → hf_F → Nat → Prop} 
    (H : hw sc (d + 2) 128 0 [(0, (2, 188)), (1, (0, 12))] [] φ x (fun r ψ1 y1 => y1 = x ∧ (∃ z1 : Int, r = some (0, z1) ∧ (hi z1 ∧ (¬ z1 = 0 → hi z1 ∧ hi 1 ∧ (¬ z1 = 1 → hi z1 ∧ hi 2 ∧ (¬ z1 = 2 → hw sc (d + 2) 91 0 [(0, (2, 17)), (1, (2, 5))] [] ψ1 x (fun r ψ5 y5 => y5 = x ∧ (r = none ∧ (Q none ψ5 x)))) ∧ (¬ (¬ z1 = 2) → hw sc (d + 2) 87 0 [(0, (2, 17))] [] ψ1 x (fun r ψ7 y7 => y7 = x ∧ ψ1 = ψ7 ∧ (∃ z7 : Int, r = some (0, z7) ∧ (hi z7 ∧ (¬ z7 = 0 → hw sc (d + 2) 91 0 [(0, (2, 17)), (1, (2, 5))] [] ψ1 x (fun r ψ9 y9 => y9 = x ∧ (r = none ∧ (Q none ψ9 x)))) ∧ (¬ (¬ z7 = 0) → hw sc (d + 2) 88 0 [(0, (2, 17))] [] ψ1 x (fun r ψ11 y11 => y11 = x ∧ (r = none ∧ (hw sc (d + 2) 91 0 [(0, (2, 17)), (1, (2, 5))] [] ψ11 x (fun r ψ12 y12 => y12 = x ∧ (r = none ∧ (Q none ψ12 x)))))))))))) ∧ (¬ (¬ z1 = 1) → hi (φ 6 3) ∧ ((φ 6 3) ≤ 0 → hi z1 ∧ hi 2 ∧ (¬ z1 = 2 → hw sc (d + 2) 91 0 [(0, (2, 17)), (1, (2, 5))] [] ψ1 x (fun r ψ16 y16 => y16 = x ∧ (r = none ∧ (Q none ψ16 x)))) ∧ (¬ (¬ z1 = 2) → hw sc (d + 2) 87 0 [(0, (2, 17))] [] ψ1 x (fun r ψ18 y18 => y18 = x ∧ ψ1 = ψ18 ∧ (∃ z18 : Int, r = some (0, z18) ∧ (hi z18 ∧ (¬ z18 = 0 → hw sc (d + 2) 91 0 [(0, (2, 17)), (1, (2, 5))] [] ψ1 x (fun r ψ20 y20 => y20 = x ∧ (r = none ∧ (Q none ψ20 x)))) ∧ (¬ (¬ z18 = 0) → hw sc (d + 2) 88 0 [(0, (2, 17))] [] ψ1 x (fun r ψ22 y22 => y22 = x ∧ (r = none ∧ (hw sc (d + 2) 91 0 [(0, (2, 17)), (1, (2, 5))] [] ψ22 x (fun r ψ23 y23 => y23 = x ∧ (r = none ∧ (Q none ψ23 x)))))))))))) ∧ (¬ (φ 6 3) ≤ 0 → hi (φ 6 2) ∧ ((φ 6 2) ≤ 0 → hi z1 ∧ hi 2 ∧ (¬ z1 = 2 → hw sc (d + 2) 91 0 [(0, (2, 17)), (1, (2, 5))] [] ψ1 x (fun r ψ27 y27 => y27 = x ∧ (r = none ∧ (Q none ψ27 x)))) ∧ (¬ (¬ z1 = 2) → hw sc (d + 2) 87 0 [(0, (2, 17))] [] ψ1 x (fun r ψ29 y29 => y29 = x ∧ ψ1 = ψ29 ∧ (∃ z29 : Int, r = some (0, z29) ∧ (hi z29 ∧ (¬ z29 = 0 → hw sc (d + 2) 91 0 [(0, (2, 17)), (1, (2, 5))] [] ψ1 x (fun r ψ31 y31 => y31 = x ∧ (r = none ∧ (Q none ψ31 x)))) ∧ (¬ (¬ z29 = 0) → hw sc (d + 2) 88 0 [(0, (2, 17))] [] ψ1 x (fun r ψ33 y33 => y33 = x ∧ (r = none ∧ (hw sc (d + 2) 91 0 [(0, (2, 17)), (1, (2, 5))] [] ψ33 x (fun r ψ34 y34 => y34 = x ∧ (r = none ∧ (Q none ψ34 x)))))))))))) ∧ (¬ (φ 6 2) ≤ 0 → hw sc (d + 2) 128 0 [(0, (2, 188)), (1, (0, φ 6 3))] [] ψ1 x (fun r ψ36 y36 => y36 = x ∧ (∃ z36 : Int, r = some (0, z36) ∧ (hw sc (d + 2) 128 0 [(0, (2, 188)), (1, (0, φ 6 2))] [] ψ36 x (fun r ψ37 y37 => y37 = x ∧ (∃ z37 : Int, r = some (0, z37) ∧ (hw sc (d + 2) 54 0 [(0, (2, 17)), (1, (0, z36))] [] ψ37 x (fun r ψ38 y38 => y38 = x ∧ ψ37 = ψ38 ∧ (∃ z38 : Int, r = some (0, z38) ∧ (hi z38 ∧ (¬ z38 = 0 → hw sc (d + 2) 91 0 [(0, (2, 17)), (1, (2, 5))] [] ψ37 x (fun r ψ40 y40 => y40 = x ∧ (r = none ∧ (Q none ψ40 x)))) ∧ (¬ (¬ z38 = 0) → hw sc (d + 2) 55 0 [(0, (2, 17)), (1, (0, z36)), (2, (0, z37))] [] ψ37 x (fun r ψ42 y42 => y42 = x ∧ (r = none ∧ (hw sc (d + 2) 91 0 [(0, (2, 17)), (1, (2, 5))] [] ψ42 x (fun r ψ43 y43 => y43 = x ∧ (r = none ∧ (Q none ψ43 x)))))))))))))))))))) ∧ (¬ (¬ z1 = 0) → hi (φ 6 3) ∧ ((φ 6 3) ≤ 0 → hi z1 ∧ hi 1 ∧ (¬ z1 = 1 → hi z1 ∧ hi 2 ∧ (¬ z1 = 2 → hw sc (d + 2) 91 0 [(0, (2, 17)), (1, (2, 5))] [] ψ1 x (fun r ψ48 y48 => y48 = x ∧ (r = none ∧ (Q none ψ48 x)))) ∧ (¬ (¬ z1 = 2) → hw sc (d + 2) 87 0 [(0, (2, 17))] [] ψ1 x (fun r ψ50 y50 => y50 = x ∧ ψ1 = ψ50 ∧ (∃ z50 : Int, r = some (0, z50) ∧ (hi z50 ∧ (¬ z50 = 0 → hw sc (d + 2) 91 0 [(0, (2, 17)), (1, (2, 5))] [] ψ1 x (fun r ψ52 y52 => y52 = x ∧ (r = none ∧ (Q none ψ52 x)))) ∧ (¬ (¬ z50 = 0) → hw sc (d + 2) 88 0 [(0, (2, 17))] [] ψ1 x (fun r ψ54 y54 => y54 = x ∧ (r = none ∧ (hw sc (d + 2) 91 0 [(0, (2, 17)), (1, (2, 5))] [] ψ54 x (fun r ψ55 y55 => y55 = x ∧ (r = none ∧ (Q none ψ55 x)))))))))))) ∧ (¬ (¬ z1 = 1) → hi (φ 6 3) ∧ ((φ 6 3) ≤ 0 → hi z1 ∧ hi 2 ∧ (¬ z1 = 2 → hw sc (d + 2) 91 0 [(0, (2, 17)), (1, (2, 5))] [] ψ1 x (fun r ψ59 y59 => y59 = x ∧ (r = none ∧ (Q none ψ59 x)))) ∧ (¬ (¬ z1 = 2) → hw sc (d + 2) 87 0 [(0, (2, 17))] [] ψ1 x (fun r ψ61 y61 => y61 = x ∧ ψ1 = ψ61 ∧ (∃ z61 : Int, r = some (0, z61) ∧ (hi z61 ∧ (¬ z61 = 0 → hw sc (d + 2) 91 0 [(0, (2, 17)), (1, (2, 5))] [] ψ1 x (fun r ψ63 y63 => y63 = x ∧ (r = none ∧ (Q none ψ63 x)))) ∧ (¬ (¬ z61 = 0) → hw sc (d + 2) 88 0 [(0, (2, 17))] [] ψ1 x (fun r ψ65 y65 => y65 = x ∧ (r = none ∧ (hw sc (d + 2) 91 0 [(0, (2, 17)), (1, (2, 5))] [] ψ65 x (fun r ψ66 y66 => y66 = x ∧ (r = none ∧ (Q none ψ66 x)))))))))))) ∧ (¬ (φ 6 3) ≤ 0 → hi (φ 6 2) ∧ ((φ 6 2) ≤ 0 → hi z1 ∧ hi 2 ∧ (¬ z1 = 2 → hw sc (d + 2) 91 0 [(0, (2, 17)), (1, (2, 5))] [] ψ1 x (fun r ψ70 y70 => y70 = x ∧ (r = none ∧ (Q none ψ70 x)))) ∧ (¬ (¬ z1 = 2) → hw sc (d + 2) 87 0 [(0, (2, 17))] [] ψ1 x (fun r ψ72 y72 => y72 = x ∧ ψ1 = ψ72 ∧ (∃ z72 : Int, r = some (0, z72) ∧ (hi z72 ∧ (¬ z72 = 0 → hw sc (d + 2) 91 0 [(0, (2, 17)), (1, (2, 5))] [] ψ1 x (fun r ψ74 y74 => y74 = x ∧ (r = none ∧ (Q none ψ74 x)))) ∧ (¬ (¬ z72 = 0) → hw sc (d + 2) 88 0 [(0, (2, 17))] [] ψ1 x (fun r ψ76 y76 => y76 = x ∧ (r = none ∧ (hw sc (d + 2) 91 0 [(0, (2, 17)), (1, (2, 5))] [] ψ76 x (fun r ψ77 y77 => y77 = x ∧ (r = none ∧ (Q none ψ77 x)))))))))))) ∧ (¬ (φ 6 2) ≤ 0 → hw sc (d + 2) 128 0 [(0, (2, 188)), (1, (0, φ 6 3))] [] ψ1 x (fun r ψ79 y79 => y79 = x ∧ (∃ z79 : Int, r = some (0, z79) ∧ (hw sc (d + 2) 128 0 [(0, (2, 188)), (1, (0, φ 6 2))] [] ψ79 x (fun r ψ80 y80 => y80 = x ∧ (∃ z80 : Int, r = some (0, z80) ∧ (hw sc (d + 2) 54 0 [(0, (2, 17)), (1, (0, z79))] [] ψ80 x (fun r ψ81 y81 => y81 = x ∧ ψ80 = ψ81 ∧ (∃ z81 : Int, r = some (0, z81) ∧ (hi z81 ∧ (¬ z81 = 0 → hw sc (d + 2) 91 0 [(0, (2, 17)), (1, (2, 5))] [] ψ80 x (fun r ψ83 y83 => y83 = x ∧ (r = none ∧ (Q none ψ83 x)))) ∧ (¬ (¬ z81 = 0) → hw sc (d + 2) 55 0 [(0, (2, 17)), (1, (0, z79)), (2, (0, z80))] [] ψ80 x (fun r ψ85 y85 => y85 = x ∧ (r = none ∧ (hw sc (d + 2) 91 0 [(0, (2, 17)), (1, (2, 5))] [] ψ85 x (fun r ψ86 y86 => y86 = x ∧ (r = none ∧ (Q none ψ86 x)))))))))))))))))))) ∧ (¬ (φ 6 3) ≤ 0 → hi (φ 6 1) ∧ ((φ 6 1) ≤ 0 → hi z1 ∧ hi 1 ∧ (¬ z1 = 1 → hi z1 ∧ hi 2 ∧ (¬ z1 = 2 → hw sc (d + 2) 91 0 [(0, (2, 17)), (1, (2, 5))] [] ψ1 x (fun r ψ91 y91 => y91 = x ∧ (r = none ∧ (Q none ψ91 x)))) ∧ (¬ (¬ z1 = 2) → hw sc (d + 2) 87 0 [(0, (2, 17))] [] ψ1 x (fun r ψ93 y93 => y93 = x ∧ ψ1 = ψ93 ∧ (∃ z93 : Int, r = some (0, z93) ∧ (hi z93 ∧ (¬ z93 = 0 → hw sc (d + 2) 91 0 [(0, (2, 17)), (1, (2, 5))] [] ψ1 x (fun r ψ95 y95 => y95 = x ∧ (r = none ∧ (Q none ψ95 x)))) ∧ (¬ (¬ z93 = 0) → hw sc (d + 2) 88 0 [(0, (2, 17))] [] ψ1 x (fun r ψ97 y97 => y97 = x ∧ (r = none ∧ (hw sc (d + 2) 91 0 [(0, (2, 17)), (1, (2, 5))] [] ψ97 x (fun r ψ98 y98 => y98 = x ∧ (r = none ∧ (Q none ψ98 x)))))))))))) ∧ (¬ (¬ z1 = 1) → hi (φ 6 3) ∧ ((φ 6 3) ≤ 0 → hi z1 ∧ hi 2 ∧ (¬ z1 = 2 → hw sc (d + 2) 91 0 [(0, (2, 17)), (1, (2, 5))] [] ψ1 x (fun r ψ102 y102 => y102 = x ∧ (r = none ∧ (Q none ψ102 x)))) ∧ (¬ (¬ z1 = 2) → hw sc (d + 2) 87 0 [(0, (2, 17))] [] ψ1 x (fun r ψ104 y104 => y104 = x ∧ ψ1 = ψ104 ∧ (∃ z104 : Int, r = some (0, z104) ∧ (hi z104 ∧ (¬ z104 = 0 → hw sc (d + 2) 91 0 [(0, (2, 17)), (1, (2, 5))] [] ψ1 x (fun r ψ106 y106 => y106 = x ∧ (r = none ∧ (Q none ψ106 x)))) ∧ (¬ (¬ z104 = 0) → hw sc (d + 2) 88 0 [(0, (2, 17))] [] ψ1 x (fun r ψ108 y108 => y108 = x ∧ (r = none ∧ (hw sc (d + 2) 91 0 [(0, (2, 17)), (1, (2, 5))] [] ψ108 x (fun r ψ109 y109 => y109 = x ∧ (r = none ∧ (Q none ψ109 x)))))))))))) ∧ (¬ (φ 6 3) ≤ 0 → hi (φ 6 2) ∧ ((φ 6 2) ≤ 0 → hi z1 ∧ hi 2 ∧ (¬ z1 = 2 → hw sc (d + 2) 91 0 [(0, (2, 17)), (1, (2, 5))] [] ψ1 x (fun r ψ113 y113 => y113 = x ∧ (r = none ∧ (Q none ψ113 x)))) ∧ (¬ (¬ z1 = 2) → hw sc (d + 2) 87 0 [(0, (2, 17))] [] ψ1 x (fun r ψ115 y115 => y115 = x ∧ ψ1 = ψ115 ∧ (∃ z115 : Int, r = some (0, z115) ∧ (hi z115 ∧ (¬ z115 = 0 → hw sc (d + 2) 91 0 [(0, (2, 17)), (1, (2, 5))] [] ψ1 x (fun r ψ117 y117 => y117 = x ∧ (r = none ∧ (Q none ψ117 x)))) ∧ (¬ (¬ z115 = 0) → hw sc (d + 2) 88 0 [(0, (2, 17))] [] ψ1 x (fun r ψ119 y119 => y119 = x ∧ (r = none ∧ (hw sc (d + 2) 91 0 [(0, (2, 17)), (1, (2, 5))] [] ψ119 x (fun r ψ120 y120 => y120 = x ∧ (r = none ∧ (Q none ψ120 x)))))))))))) ∧ (¬ (φ 6 2) ≤ 0 → hw sc (d + 2) 128 0 [(0, (2, 188)), (1, (0, φ 6 3))] [] ψ1 x (fun r ψ122 y122 => y122 = x ∧ (∃ z122 : Int, r = some (0, z122) ∧ (hw sc (d + 2) 128 0 [(0, (2, 188)), (1, (0, φ 6 2))] [] ψ122 x (fun r ψ123 y123 => y123 = x ∧ (∃ z123 : Int, r = some (0, z123) ∧ (hw sc (d + 2) 54 0 [(0, (2, 17)), (1, (0, z122))] [] ψ123 x (fun r ψ124 y124 => y124 = x ∧ ψ123 = ψ124 ∧ (∃ z124 : Int, r = some (0, z124) ∧ (hi z124 ∧ (¬ z124 = 0 → hw sc (d + 2) 91 0 [(0, (2, 17)), (1, (2, 5))] [] ψ123 x (fun r ψ126 y126 => y126 = x ∧ (r = none ∧ (Q none ψ126 x)))) ∧ (¬ (¬ z124 = 0) → hw sc (d + 2) 55 0 [(0, (2, 17)), (1, (0, z122)), (2, (0, z123))] [] ψ123 x (fun r ψ128 y128 => y128 = x ∧ (r = none ∧ (hw sc (d + 2) 91 0 [(0, (2, 17)), (1, (2, 5))] [] ψ128 x (fun r ψ129 y129 => y129 = x ∧ (r = none ∧ (Q none ψ129 x)))))))))))))))))))) ∧ (¬ (φ 6 1) ≤ 0 → hw sc (d + 2) 128 0 [(0, (2, 188)), (1, (0, φ 6 3))] [] ψ1 x (fun r ψ131 y131 => y131 = x ∧ (∃ z131 : Int, r = some (0, z131) ∧ (hw sc (d + 2) 128 0 [(0, (2, 188)), (1, (0, φ 6 1))] [] ψ131 x (fun r ψ132 y132 => y132 = x ∧ (∃ z132 : Int, r = some (0, z132) ∧ (hw sc (d + 2) 129 0 [(0, (2, 17)), (1, (0, z131)), (2, (0, z132))] [] ψ132 x (fun r ψ133 y133 => y133 = x ∧ (r = none ∧ (hw sc (d + 2) 91 0 [(0, (2, 17)), (1, (2, 5))] [] ψ133 x (fun r ψ134 y134 => y134 = x ∧ (r = none ∧ (Q none ψ134 x))))))))))))))))))) :
    hw sc (d + 3) 127 0 [(0, (2, 17)), (1, (2, 5)), (2, (2, 188))] [] φ x Q := by
  refine hw_ald (b := 1) (e := 0) (by decide +kernel) rfl (by decide) ?_
  refine hr_gr (w := 6) (b := 3) (e := 0) 5 rfl (by decide +kernel) ?_
  refine hw_k (c := 3) (b := 0) (e := 1) (by decide +kernel) ?_
  refine hr_al (b := 0) (a0 := 0) (e := 0) (n := 5) (w := φ 6 3) 6 rfl (by decide +kernel) (by decide) (by decide) (by decide) rfl ?_
  refine hw_st (L' := (jm_st1 [(0, (2, 17)), (1, (2, 5)), (2, (2, 188))] 3 (0, φ 6 3))) (b := 3) (e := 0) (by decide +kernel) rfl ?_
  refine hw_ald (b := 1) (e := 0) (by decide +kernel) (get_st1 rfl (by decide) (fun q => absurd q.1 (by decide))) (by decide) ?_
  refine hr_gr (w := 6) (b := 3) (e := 0) 5 rfl (by decide +kernel) ?_
  refine hw_k (c := 1) (b := 0) (e := 1) (by decide +kernel) ?_
  refine hr_al (b := 0) (a0 := 0) (e := 0) (n := 5) (w := φ 6 1) 6 rfl (by decide +kernel) (by decide) (by decide) (by decide) rfl ?_
  refine hw_st (L' := (jm_st1 (jm_st1 [(0, (2, 17)), (1, (2, 5)), (2, (2, 188))] 3 (0, φ 6 3)) 4 (0, φ 6 1))) (b := 4) (e := 1) (by decide +kernel) rfl ?_
  refine hw_ald (b := 1) (e := 0) (by decide +kernel) (get_st1 (get_st1 rfl (by decide) (fun q => absurd q.1 (by decide))) (by decide) (fun q => absurd q.1 (by decide))) (by decide) ?_
  refine hr_gr (w := 6) (b := 3) (e := 0) 5 rfl (by decide +kernel) ?_
  refine hw_k (c := 2) (b := 0) (e := 1) (by decide +kernel) ?_
  refine hr_al (b := 0) (a0 := 0) (e := 0) (n := 5) (w := φ 6 2) 6 rfl (by decide +kernel) (by decide) (by decide) (by decide) rfl ?_
  refine hw_st (L' := (jm_st1 (jm_st1 (jm_st1 [(0, (2, 17)), (1, (2, 5)), (2, (2, 188))] 3 (0, φ 6 3)) 4 (0, φ 6 1)) 5 (0, φ 6 2))) (b := 5) (e := 1) (by decide +kernel) rfl ?_
  refine hw_ald (b := 2) (e := 0) (by decide +kernel) (get_st1 (get_st1 (get_st1 rfl (by decide) (fun q => tg2 q.2)) (by decide) (fun q => absurd q.1 (by decide))) (by decide) (fun q => absurd q.1 (by decide))) (by decide) ?_
  refine hw_k (c := 12) (b := 1) (e := 2) (by decide +kernel) ?_
  refine hr_call (a0 := 20) (b := 128) (e := 2) (nl := 2) (As := [(0, 12)]) (R := []) 188 rfl (by decide +kernel) rfl rfl (Nat.le_of_ble_eq_true rfl) (Nat.le_of_ble_eq_true rfl) ?_
  refine hw_mono H ?_
  rintro r ψ1 y1 ⟨hyx, z1, hr, H⟩
  subst hyx
  subst hr
  refine ⟨hne0, ?_⟩
  show hw sc (d + 3) 127 29 (jm_st1 (jm_st1 (jm_st1 [(0, (2, 17)), (1, (2, 5)), (2, (2, 188))] 3 (0, φ 6 3)) 4 (0, φ 6 1)) 5 (0, φ 6 2)) [(0, z1)] ψ1 y1 Q
  refine hw_st (L' := (jm_st1 (jm_st1 (jm_st1 (jm_st1 [(0, (2, 17)), (1, (2, 5)), (2, (2, 188))] 3 (0, φ 6 3)) 4 (0, φ 6 1)) 5 (0, φ 6 2)) 6 (0, z1))) (b := 6) (e := 1) (by decide +kernel) rfl ?_
  refine hw_ld (b := 6) (e := 1) (by decide +kernel) get_st1e ?_
  obtain ⟨hz2, ht2, hf2⟩ := H
  refine hw_if (a0 := 0) (b := 1) (e := 67) (by decide +kernel) hz2 (fun q => ?_) (fun q => ?_)
  · have H := ht2 q
    refine hw_ld (b := 6) (e := 1) (by decide +kernel) get_st1e ?_
    refine hw_k (c := 1) (b := 0) (e := 1) (by decide +kernel) ?_
    obtain ⟨hz3, hy3, ht3, hf3⟩ := H
    refine hw_if2 (a0 := 0) (b := 1) (e := 117) (by decide +kernel) hz3 hy3 (fun q => ?_) (fun q => ?_)
    · have H := ht3 q
      refine hw_ld (b := 6) (e := 1) (by decide +kernel) get_st1e ?_
      refine hw_k (c := 2) (b := 0) (e := 1) (by decide +kernel) ?_
      obtain ⟨hz4, hy4, ht4, hf4⟩ := H
      refine hw_if2 (a0 := 0) (b := 1) (e := 134) (by decide +kernel) hz4 hy4 (fun q => ?_) (fun q => ?_)
      · have H := ht4 q
        refine hw_ald (b := 0) (e := 0) (by decide +kernel) (get_st1 (get_st1 (get_st1 (get_st1 rfl (by decide) (fun q => absurd q.1 (by decide))) (by decide) (fun q => absurd q.1 (by decide))) (by decide) (fun q => absurd q.1 (by decide))) (by decide) (fun q => absurd q.1 (by decide))) (by decide) ?_
        refine hw_ald (b := 1) (e := 0) (by decide +kernel) (get_st1 (get_st1 (get_st1 (get_st1 rfl (by decide) (fun q => absurd q.1 (by decide))) (by decide) (fun q => absurd q.1 (by decide))) (by decide) (fun q => absurd q.1 (by decide))) (by decide) (fun q => absurd q.1 (by decide))) (by decide) ?_
        refine hr_call (a0 := 14) (b := 91) (e := 2) (nl := 6) (As := [(2, 5)]) (R := []) 17 rfl (by decide +kernel) rfl rfl (Nat.le_of_ble_eq_true rfl) (Nat.le_of_ble_eq_true rfl) ?_
        refine hw_mono H ?_
        rintro r ψ5 y5 ⟨hyx, hr, H⟩
        subst hyx
        subst hr
        refine ⟨hnen, ?_⟩
        show hw sc (d + 3) 127 139 (jm_st1 (jm_st1 (jm_st1 (jm_st1 [(0, (2, 17)), (1, (2, 5)), (2, (2, 188))] 3 (0, φ 6 3)) 4 (0, φ 6 1)) 5 (0, φ 6 2)) 6 (0, z1)) [] ψ5 y5 Q
        exact hw_vret (a0 := 0) (e := 0) (by decide +kernel) H
      · have H := hf4 q
        refine hw_ald (b := 0) (e := 0) (by decide +kernel) (get_st1 (get_st1 (get_st1 (get_st1 rfl (by decide) (fun q => absurd q.1 (by decide))) (by decide) (fun q => absurd q.1 (by decide))) (by decide) (fun q => absurd q.1 (by decide))) (by decide) (fun q => absurd q.1 (by decide))) (by decide) ?_
        refine hr_call (a0 := 14) (b := 87) (e := 1) (nl := 1) (As := []) (R := []) 17 rfl (by decide +kernel) rfl rfl (Nat.le_of_ble_eq_true rfl) (Nat.le_of_ble_eq_true rfl) ?_
        refine hw_mono H ?_
        rintro r ψ7 y7 ⟨hyx, hψx, z7, hr, H⟩
        subst hyx
        subst hψx
        subst hr
        refine ⟨hne0, ?_⟩
        show hw sc (d + 3) 127 127 (jm_st1 (jm_st1 (jm_st1 (jm_st1 [(0, (2, 17)), (1, (2, 5)), (2, (2, 188))] 3 (0, φ 6 3)) 4 (0, φ 6 1)) 5 (0, φ 6 2)) 6 (0, z1)) [(0, z7)] ψ1 y7 Q
        obtain ⟨hz8, ht8, hf8⟩ := H
        refine hw_if (a0 := 0) (b := 1) (e := 134) (by decide +kernel) hz8 (fun q => ?_) (fun q => ?_)
        · have H := ht8 q
          refine hw_ald (b := 0) (e := 0) (by decide +kernel) (get_st1 (get_st1 (get_st1 (get_st1 rfl (by decide) (fun q => absurd q.1 (by decide))) (by decide) (fun q => absurd q.1 (by decide))) (by decide) (fun q => absurd q.1 (by decide))) (by decide) (fun q => absurd q.1 (by decide))) (by decide) ?_
          refine hw_ald (b := 1) (e := 0) (by decide +kernel) (get_st1 (get_st1 (get_st1 (get_st1 rfl (by decide) (fun q => absurd q.1 (by decide))) (by decide) (fun q => absurd q.1 (by decide))) (by decide) (fun q => absurd q.1 (by decide))) (by decide) (fun q => absurd q.1 (by decide))) (by decide) ?_
          refine hr_call (a0 := 14) (b := 91) (e := 2) (nl := 6) (As := [(2, 5)]) (R := []) 17 rfl (by decide +kernel) rfl rfl (Nat.le_of_ble_eq_true rfl) (Nat.le_of_ble_eq_true rfl) ?_
          refine hw_mono H ?_
          rintro r ψ9 y9 ⟨hyx, hr, H⟩
          subst hyx
          subst hr
          refine ⟨hnen, ?_⟩
          show hw sc (d + 3) 127 139 (jm_st1 (jm_st1 (jm_st1 (jm_st1 [(0, (2, 17)), (1, (2, 5)), (2, (2, 188))] 3 (0, φ 6 3)) 4 (0, φ 6 1)) 5 (0, φ 6 2)) 6 (0, z1)) [] ψ9 y9 Q
          exact hw_vret (a0 := 0) (e := 0) (by decide +kernel) H
        · have H := hf8 q
          refine hw_ald (b := 0) (e := 0) (by decide +kernel) (get_st1 (get_st1 (get_st1 (get_st1 rfl (by decide) (fun q => absurd q.1 (by decide))) (by decide) (fun q => absurd q.1 (by decide))) (by decide) (fun q => absurd q.1 (by decide))) (by decide) (fun q => absurd q.1 (by decide))) (by decide) ?_
          refine hr_call (a0 := 14) (b := 88) (e := 1) (nl := 1) (As := []) (R := []) 17 rfl (by decide +kernel) rfl rfl (Nat.le_of_ble_eq_true rfl) (Nat.le_of_ble_eq_true rfl) ?_
          refine hw_mono H ?_
          rintro r ψ11 y11 ⟨hyx, hr, H⟩
          subst hyx
          subst hr
          refine ⟨hnen, ?_⟩
          show hw sc (d + 3) 127 134 (jm_st1 (jm_st1 (jm_st1 (jm_st1 [(0, (2, 17)), (1, (2, 5)), (2, (2, 188))] 3 (0, φ 6 3)) 4 (0, φ 6 1)) 5 (0, φ 6 2)) 6 (0, z1)) [] ψ11 y11 Q
          refine hw_ald (b := 0) (e := 0) (by decide +kernel) (get_st1 (get_st1 (get_st1 (get_st1 rfl (by decide) (fun q => absurd q.1 (by decide))) (by decide) (fun q => absurd q.1 (by decide))) (by decide) (fun q => absurd q.1 (by decide))) (by decide) (fun q => absurd q.1 (by decide))) (by decide) ?_
          refine hw_ald (b := 1) (e := 0) (by decide +kernel) (get_st1 (get_st1 (get_st1 (get_st1 rfl (by decide) (fun q => absurd q.1 (by decide))) (by decide) (fun q => absurd q.1 (by decide))) (by decide) (fun q => absurd q.1 (by decide))) (by decide) (fun q => absurd q.1 (by decide))) (by decide) ?_
          refine hr_call (a0 := 14) (b := 91) (e := 2) (nl := 6) (As := [(2, 5)]) (R := []) 17 rfl (by decide +kernel) rfl rfl (Nat.le_of_ble_eq_true rfl) (Nat.le_of_ble_eq_true rfl) ?_
          refine hw_mono H ?_
          rintro r ψ12 y12 ⟨hyx, hr, H⟩
          subst hyx
          subst hr
          refine ⟨hnen, ?_⟩
          show hw sc (d + 3) 127 139 (jm_st1 (jm_st1 (jm_st1 (jm_st1 [(0, (2, 17)), (1, (2, 5)), (2, (2, 188))] 3 (0, φ 6 3)) 4 (0, φ 6 1)) 5 (0, φ 6 2)) 6 (0, z1)) [] ψ12 y12 Q
          exact hw_vret (a0 := 0) (e := 0) (by decide +kernel) H
    · have H := hf3 q
      refine hw_ld (b := 3) (e := 0) (by decide +kernel) (get_st1 (get_st1 (get_st1 get_st1e (by decide) (fun q => tg0 q.2)) (by decide) (fun q => absurd q.1 (by decide))) (by decide) (fun q => absurd q.1 (by decide))) ?_
      obtain ⟨hz14, ht14, hf14⟩ := H
      refine hw_if (a0 := 0) (b := 5) (e := 117) (by decide +kernel) hz14 (fun q => ?_) (fun q => ?_)
      · have H := ht14 q
        refine hw_ld (b := 6) (e := 1) (by decide +kernel) get_st1e ?_
        refine hw_k (c := 2) (b := 0) (e := 1) (by decide +kernel) ?_
        obtain ⟨hz15, hy15, ht15, hf15⟩ := H
        refine hw_if2 (a0 := 0) (b := 1) (e := 134) (by decide +kernel) hz15 hy15 (fun q => ?_) (fun q => ?_)
        · have H := ht15 q
          refine hw_ald (b := 0) (e := 0) (by decide +kernel) (get_st1 (get_st1 (get_st1 (get_st1 rfl (by decide) (fun q => absurd q.1 (by decide))) (by decide) (fun q => absurd q.1 (by decide))) (by decide) (fun q => absurd q.1 (by decide))) (by decide) (fun q => absurd q.1 (by decide))) (by decide) ?_
          refine hw_ald (b := 1) (e := 0) (by decide +kernel) (get_st1 (get_st1 (get_st1 (get_st1 rfl (by decide) (fun q => absurd q.1 (by decide))) (by decide) (fun q => absurd q.1 (by decide))) (by decide) (fun q => absurd q.1 (by decide))) (by decide) (fun q => absurd q.1 (by decide))) (by decide) ?_
          refine hr_call (a0 := 14) (b := 91) (e := 2) (nl := 6) (As := [(2, 5)]) (R := []) 17 rfl (by decide +kernel) rfl rfl (Nat.le_of_ble_eq_true rfl) (Nat.le_of_ble_eq_true rfl) ?_
          refine hw_mono H ?_
          rintro r ψ16 y16 ⟨hyx, hr, H⟩
          subst hyx
          subst hr
          refine ⟨hnen, ?_⟩
          show hw sc (d + 3) 127 139 (jm_st1 (jm_st1 (jm_st1 (jm_st1 [(0, (2, 17)), (1, (2, 5)), (2, (2, 188))] 3 (0, φ 6 3)) 4 (0, φ 6 1)) 5 (0, φ 6 2)) 6 (0, z1)) [] ψ16 y16 Q
          exact hw_vret (a0 := 0) (e := 0) (by decide +kernel) H
        · have H := hf15 q
          refine hw_ald (b := 0) (e := 0) (by decide +kernel) (get_st1 (get_st1 (get_st1 (get_st1 rfl (by decide) (fun q => absurd q.1 (by decide))) (by decide) (fun q => absurd q.1 (by decide))) (by decide) (fun q => absurd q.1 (by decide))) (by decide) (fun q => absurd q.1 (by decide))) (by decide) ?_
          refine hr_call (a0 := 14) (b := 87) (e := 1) (nl := 1) (As := []) (R := []) 17 rfl (by decide +kernel) rfl rfl (Nat.le_of_ble_eq_true rfl) (Nat.le_of_ble_eq_true rfl) ?_
          refine hw_mono H ?_
          rintro r ψ18 y18 ⟨hyx, hψx, z18, hr, H⟩
          subst hyx
          subst hψx
          subst hr
          refine ⟨hne0, ?_⟩
          show hw sc (d + 3) 127 127 (jm_st1 (jm_st1 (jm_st1 (jm_st1 [(0, (2, 17)), (1, (2, 5)), (2, (2, 188))] 3 (0, φ 6 3)) 4 (0, φ 6 1)) 5 (0, φ 6 2)) 6 (0, z1)) [(0, z18)] ψ1 y18 Q
          obtain ⟨hz19, ht19, hf19⟩ := H
          refine hw_if (a0 := 0) (b := 1) (e := 134) (by decide +kernel) hz19 (fun q => ?_) (fun q => ?_)
          · have H := ht19 q
            refine hw_ald (b := 0) (e := 0) (by decide +kernel) (get_st1 (get_st1 (get_st1 (get_st1 rfl (by decide) (fun q => absurd q.1 (by decide))) (by decide) (fun q => absurd q.1 (by decide))) (by decide) (fun q => absurd q.1 (by decide))) (by decide) (fun q => absurd q.1 (by decide))) (by decide) ?_
            refine hw_ald (b := 1) (e := 0) (by decide +kernel) (get_st1 (get_st1 (get_st1 (get_st1 rfl (by decide) (fun q => absurd q.1 (by decide))) (by decide) (fun q => absurd q.1 (by decide))) (by decide) (fun q => absurd q.1 (by decide))) (by decide) (fun q => absurd q.1 (by decide))) (by decide) ?_
            refine hr_call (a0 := 14) (b := 91) (e := 2) (nl := 6) (As := [(2, 5)]) (R := []) 17 rfl (by decide +kernel) rfl rfl (Nat.le_of_ble_eq_true rfl) (Nat.le_of_ble_eq_true rfl) ?_
            refine hw_mono H ?_
            rintro r ψ20 y20 ⟨hyx, hr, H⟩
            subst hyx
            subst hr
            refine ⟨hnen, ?_⟩
            show hw sc (d + 3) 127 139 (jm_st1 (jm_st1 (jm_st1 (jm_st1 [(0, (2, 17)), (1, (2, 5)), (2, (2, 188))] 3 (0, φ 6 3)) 4 (0, φ 6 1)) 5 (0, φ 6 2)) 6 (0, z1)) [] ψ20 y20 Q
            exact hw_vret (a0 := 0) (e := 0) (by decide +kernel) H
          · have H := hf19 q
            refine hw_ald (b := 0) (e := 0) (by decide +kernel) (get_st1 (get_st1 (get_st1 (get_st1 rfl (by decide) (fun q => absurd q.1 (by decide))) (by decide) (fun q => absurd q.1 (by decide))) (by decide) (fun q => absurd q.1 (by decide))) (by decide) (fun q => absurd q.1 (by decide))) (by decide) ?_
            refine hr_call (a0 := 14) (b := 88) (e := 1) (nl := 1) (As := []) (R := []) 17 rfl (by decide +kernel) rfl rfl (Nat.le_of_ble_eq_true rfl) (Nat.le_of_ble_eq_true rfl) ?_
            refine hw_mono H ?_
            rintro r ψ22 y22 ⟨hyx, hr, H⟩
            subst hyx
            subst hr
            refine ⟨hnen, ?_⟩
            show hw sc (d + 3) 127 134 (jm_st1 (jm_st1 (jm_st1 (jm_st1 [(0, (2, 17)), (1, (2, 5)), (2, (2, 188))] 3 (0, φ 6 3)) 4 (0, φ 6 1)) 5 (0, φ 6 2)) 6 (0, z1)) [] ψ22 y22 Q
            refine hw_ald (b := 0) (e := 0) (by decide +kernel) (get_st1 (get_st1 (get_st1 (get_st1 rfl (by decide) (fun q => absurd q.1 (by decide))) (by decide) (fun q => absurd q.1 (by decide))) (by decide) (fun q => absurd q.1 (by decide))) (by decide) (fun q => absurd q.1 (by decide))) (by decide) ?_
            refine hw_ald (b := 1) (e := 0) (by decide +kernel) (get_st1 (get_st1 (get_st1 (get_st1 rfl (by decide) (fun q => absurd q.1 (by decide))) (by decide) (fun q => absurd q.1 (by decide))) (by decide) (fun q => absurd q.1 (by decide))) (by decide) (fun q => absurd q.1 (by decide))) (by decide) ?_
            refine hr_call (a0 := 14) (b := 91) (e := 2) (nl := 6) (As := [(2, 5)]) (R := []) 17 rfl (by decide +kernel) rfl rfl (Nat.le_of_ble_eq_true rfl) (Nat.le_of_ble_eq_true rfl) ?_
            refine hw_mono H ?_
            rintro r ψ23 y23 ⟨hyx, hr, H⟩
            subst hyx
            subst hr
            refine ⟨hnen, ?_⟩
            show hw sc (d + 3) 127 139 (jm_st1 (jm_st1 (jm_st1 (jm_st1 [(0, (2, 17)), (1, (2, 5)), (2, (2, 188))] 3 (0, φ 6 3)) 4 (0, φ 6 1)) 5 (0, φ 6 2)) 6 (0, z1)) [] ψ23 y23 Q
            exact hw_vret (a0 := 0) (e := 0) (by decide +kernel) H
      · have H := hf14 q
        refine hw_ld (b := 5) (e := 1) (by decide +kernel) (get_st1 get_st1e (by decide) (fun q => tg0 q.2)) ?_
        obtain ⟨hz25, ht25, hf25⟩ := H
        refine hw_if (a0 := 0) (b := 5) (e := 117) (by decide +kernel) hz25 (fun q => ?_) (fun q => ?_)
        · have H := ht25 q
          refine hw_ld (b := 6) (e := 1) (by decide +kernel) get_st1e ?_
          refine hw_k (c := 2) (b := 0) (e := 1) (by decide +kernel) ?_
          obtain ⟨hz26, hy26, ht26, hf26⟩ := H
          refine hw_if2 (a0 := 0) (b := 1) (e := 134) (by decide +kernel) hz26 hy26 (fun q => ?_) (fun q => ?_)
          · have H := ht26 q
            refine hw_ald (b := 0) (e := 0) (by decide +kernel) (get_st1 (get_st1 (get_st1 (get_st1 rfl (by decide) (fun q => absurd q.1 (by decide))) (by decide) (fun q => absurd q.1 (by decide))) (by decide) (fun q => absurd q.1 (by decide))) (by decide) (fun q => absurd q.1 (by decide))) (by decide) ?_
            refine hw_ald (b := 1) (e := 0) (by decide +kernel) (get_st1 (get_st1 (get_st1 (get_st1 rfl (by decide) (fun q => absurd q.1 (by decide))) (by decide) (fun q => absurd q.1 (by decide))) (by decide) (fun q => absurd q.1 (by decide))) (by decide) (fun q => absurd q.1 (by decide))) (by decide) ?_
            refine hr_call (a0 := 14) (b := 91) (e := 2) (nl := 6) (As := [(2, 5)]) (R := []) 17 rfl (by decide +kernel) rfl rfl (Nat.le_of_ble_eq_true rfl) (Nat.le_of_ble_eq_true rfl) ?_
            refine hw_mono H ?_
            rintro r ψ27 y27 ⟨hyx, hr, H⟩
            subst hyx
            subst hr
            refine ⟨hnen, ?_⟩
            show hw sc (d + 3) 127 139 (jm_st1 (jm_st1 (jm_st1 (jm_st1 [(0, (2, 17)), (1, (2, 5)), (2, (2, 188))] 3 (0, φ 6 3)) 4 (0, φ 6 1)) 5 (0, φ 6 2)) 6 (0, z1)) [] ψ27 y27 Q
            exact hw_vret (a0 := 0) (e := 0) (by decide +kernel) H
          · have H := hf26 q
            refine hw_ald (b := 0) (e := 0) (by decide +kernel) (get_st1 (get_st1 (get_st1 (get_st1 rfl (by decide) (fun q => absurd q.1 (by decide))) (by decide) (fun q => absurd q.1 (by decide))) (by decide) (fun q => absurd q.1 (by decide))) (by decide) (fun q => absurd q.1 (by decide))) (by decide) ?_
            refine hr_call (a0 := 14) (b := 87) (e := 1) (nl := 1) (As := []) (R := []) 17 rfl (by decide +kernel) rfl rfl (Nat.le_of_ble_eq_true rfl) (Nat.le_of_ble_eq_true rfl) ?_
            refine hw_mono H ?_
            rintro r ψ29 y29 ⟨hyx, hψx, z29, hr, H⟩
            subst hyx
            subst hψx
            subst hr
            refine ⟨hne0, ?_⟩
            show hw sc (d + 3) 127 127 (jm_st1 (jm_st1 (jm_st1 (jm_st1 [(0, (2, 17)), (1, (2, 5)), (2, (2, 188))] 3 (0, φ 6 3)) 4 (0, φ 6 1)) 5 (0, φ 6 2)) 6 (0, z1)) [(0, z29)] ψ1 y29 Q
            obtain ⟨hz30, ht30, hf30⟩ := H
            refine hw_if (a0 := 0) (b := 1) (e := 134) (by decide +kernel) hz30 (fun q => ?_) (fun q => ?_)
            · have H := ht30 q
              refine hw_ald (b := 0) (e := 0) (by decide +kernel) (get_st1 (get_st1 (get_st1 (get_st1 rfl (by decide) (fun q => absurd q.1 (by decide))) (by decide) (fun q => absurd q.1 (by decide))) (by decide) (fun q => absurd q.1 (by decide))) (by decide) (fun q => absurd q.1 (by decide))) (by decide) ?_
              refine hw_ald (b := 1) (e := 0) (by decide +kernel) (get_st1 (get_st1 (get_st1 (get_st1 rfl (by decide) (fun q => absurd q.1 (by decide))) (by decide) (fun q => absurd q.1 (by decide))) (by decide) (fun q => absurd q.1 (by decide))) (by decide) (fun q => absurd q.1 (by decide))) (by decide) ?_
              refine hr_call (a0 := 14) (b := 91) (e := 2) (nl := 6) (As := [(2, 5)]) (R := []) 17 rfl (by decide +kernel) rfl rfl (Nat.le_of_ble_eq_true rfl) (Nat.le_of_ble_eq_true rfl) ?_
              refine hw_mono H ?_
              rintro r ψ31 y31 ⟨hyx, hr, H⟩
              subst hyx
              subst hr
              refine ⟨hnen, ?_⟩
              show hw sc (d + 3) 127 139 (jm_st1 (jm_st1 (jm_st1 (jm_st1 [(0, (2, 17)), (1, (2, 5)), (2, (2, 188))] 3 (0, φ 6 3)) 4 (0, φ 6 1)) 5 (0, φ 6 2)) 6 (0, z1)) [] ψ31 y31 Q
              exact hw_vret (a0 := 0) (e := 0) (by decide +kernel) H
            · have H := hf30 q
              refine hw_ald (b := 0) (e := 0) (by decide +kernel) (get_st1 (get_st1 (get_st1 (get_st1 rfl (by decide) (fun q => absurd q.1 (by decide))) (by decide) (fun q => absurd q.1 (by decide))) (by decide) (fun q => absurd q.1 (by decide))) (by decide) (fun q => absurd q.1 (by decide))) (by decide) ?_
              refine hr_call (a0 := 14) (b := 88) (e := 1) (nl := 1) (As := []) (R := []) 17 rfl (by decide +kernel) rfl rfl (Nat.le_of_ble_eq_true rfl) (Nat.le_of_ble_eq_true rfl) ?_
              refine hw_mono H ?_
              rintro r ψ33 y33 ⟨hyx, hr, H⟩
              subst hyx
              subst hr
              refine ⟨hnen, ?_⟩
              show hw sc (d + 3) 127 134 (jm_st1 (jm_st1 (jm_st1 (jm_st1 [(0, (2, 17)), (1, (2, 5)), (2, (2, 188))] 3 (0, φ 6 3)) 4 (0, φ 6 1)) 5 (0, φ 6 2)) 6 (0, z1)) [] ψ33 y33 Q
              refine hw_ald (b := 0) (e := 0) (by decide +kernel) (get_st1 (get_st1 (get_st1 (get_st1 rfl (by decide) (fun q => absurd q.1 (by decide))) (by decide) (fun q => absurd q.1 (by decide))) (by decide) (fun q => absurd q.1 (by decide))) (by decide) (fun q => absurd q.1 (by decide))) (by decide) ?_
              refine hw_ald (b := 1) (e := 0) (by decide +kernel) (get_st1 (get_st1 (get_st1 (get_st1 rfl (by decide) (fun q => absurd q.1 (by decide))) (by decide) (fun q => absurd q.1 (by decide))) (by decide) (fun q => absurd q.1 (by decide))) (by decide) (fun q => absurd q.1 (by decide))) (by decide) ?_
              refine hr_call (a0 := 14) (b := 91) (e := 2) (nl := 6) (As := [(2, 5)]) (R := []) 17 rfl (by decide +kernel) rfl rfl (Nat.le_of_ble_eq_true rfl) (Nat.le_of_ble_eq_true rfl) ?_
              refine hw_mono H ?_
              rintro r ψ34 y34 ⟨hyx, hr, H⟩
              subst hyx
              subst hr
              refine ⟨hnen, ?_⟩
              show hw sc (d + 3) 127 139 (jm_st1 (jm_st1 (jm_st1 (jm_st1 [(0, (2, 17)), (1, (2, 5)), (2, (2, 188))] 3 (0, φ 6 3)) 4 (0, φ 6 1)) 5 (0, φ 6 2)) 6 (0, z1)) [] ψ34 y34 Q
              exact hw_vret (a0 := 0) (e := 0) (by decide +kernel) H
        · have H := hf25 q
          refine hw_ald (b := 2) (e := 0) (by decide +kernel) (get_st1 (get_st1 (get_st1 (get_st1 rfl (by decide) (fun q => tg2 q.2)) (by decide) (fun q => absurd q.1 (by decide))) (by decide) (fun q => absurd q.1 (by decide))) (by decide) (fun q => absurd q.1 (by decide))) (by decide) ?_
          refine hw_ld (b := 3) (e := 0) (by decide +kernel) (get_st1 (get_st1 (get_st1 get_st1e (by decide) (fun q => tg0 q.2)) (by decide) (fun q => absurd q.1 (by decide))) (by decide) (fun q => absurd q.1 (by decide))) ?_
          refine hr_call (a0 := 20) (b := 128) (e := 2) (nl := 2) (As := [(0, φ 6 3)]) (R := []) 188 rfl (by decide +kernel) rfl rfl (Nat.le_of_ble_eq_true rfl) (Nat.le_of_ble_eq_true rfl) ?_
          refine hw_mono H ?_
          rintro r ψ36 y36 ⟨hyx, z36, hr, H⟩
          subst hyx
          subst hr
          refine ⟨hne0, ?_⟩
          show hw sc (d + 3) 127 87 (jm_st1 (jm_st1 (jm_st1 (jm_st1 [(0, (2, 17)), (1, (2, 5)), (2, (2, 188))] 3 (0, φ 6 3)) 4 (0, φ 6 1)) 5 (0, φ 6 2)) 6 (0, z1)) [(0, z36)] ψ36 y36 Q
          refine hw_st (L' := (jm_st1 (jm_st1 (jm_st1 (jm_st1 (jm_st1 [(0, (2, 17)), (1, (2, 5)), (2, (2, 188))] 3 (0, φ 6 3)) 4 (0, φ 6 1)) 5 (0, φ 6 2)) 6 (0, z1)) 7 (0, z36))) (b := 7) (e := 1) (by decide +kernel) rfl ?_
          refine hw_ald (b := 2) (e := 0) (by decide +kernel) (get_st1 (get_st1 (get_st1 (get_st1 (get_st1 rfl (by decide) (fun q => tg2 q.2)) (by decide) (fun q => absurd q.1 (by decide))) (by decide) (fun q => absurd q.1 (by decide))) (by decide) (fun q => absurd q.1 (by decide))) (by decide) (fun q => absurd q.1 (by decide))) (by decide) ?_
          refine hw_ld (b := 5) (e := 1) (by decide +kernel) (get_st1 (get_st1 get_st1e (by decide) (fun q => tg0 q.2)) (by decide) (fun q => absurd q.1 (by decide))) ?_
          refine hr_call (a0 := 20) (b := 128) (e := 2) (nl := 2) (As := [(0, φ 6 2)]) (R := []) 188 rfl (by decide +kernel) rfl rfl (Nat.le_of_ble_eq_true rfl) (Nat.le_of_ble_eq_true rfl) ?_
          refine hw_mono H ?_
          rintro r ψ37 y37 ⟨hyx, z37, hr, H⟩
          subst hyx
          subst hr
          refine ⟨hne0, ?_⟩
          show hw sc (d + 3) 127 95 (jm_st1 (jm_st1 (jm_st1 (jm_st1 (jm_st1 [(0, (2, 17)), (1, (2, 5)), (2, (2, 188))] 3 (0, φ 6 3)) 4 (0, φ 6 1)) 5 (0, φ 6 2)) 6 (0, z1)) 7 (0, z36)) [(0, z37)] ψ37 y37 Q
          refine hw_st (L' := (jm_st1 (jm_st1 (jm_st1 (jm_st1 (jm_st1 (jm_st1 [(0, (2, 17)), (1, (2, 5)), (2, (2, 188))] 3 (0, φ 6 3)) 4 (0, φ 6 1)) 5 (0, φ 6 2)) 6 (0, z1)) 7 (0, z36)) 8 (0, z37))) (b := 8) (e := 1) (by decide +kernel) rfl ?_
          refine hw_ald (b := 0) (e := 0) (by decide +kernel) (get_st1 (get_st1 (get_st1 (get_st1 (get_st1 (get_st1 rfl (by decide) (fun q => absurd q.1 (by decide))) (by decide) (fun q => absurd q.1 (by decide))) (by decide) (fun q => absurd q.1 (by decide))) (by decide) (fun q => absurd q.1 (by decide))) (by decide) (fun q => absurd q.1 (by decide))) (by decide) (fun q => absurd q.1 (by decide))) (by decide) ?_
          refine hw_ld (b := 7) (e := 1) (by decide +kernel) (get_st1 get_st1e (by decide) (fun q => tg0 q.2)) ?_
          refine hr_call (a0 := 14) (b := 54) (e := 2) (nl := 2) (As := [(0, z36)]) (R := []) 17 rfl (by decide +kernel) rfl rfl (Nat.le_of_ble_eq_true rfl) (Nat.le_of_ble_eq_true rfl) ?_
          refine hw_mono H ?_
          rintro r ψ38 y38 ⟨hyx, hψx, z38, hr, H⟩
          subst hyx
          subst hψx
          subst hr
          refine ⟨hne0, ?_⟩
          show hw sc (d + 3) 127 103 (jm_st1 (jm_st1 (jm_st1 (jm_st1 (jm_st1 (jm_st1 [(0, (2, 17)), (1, (2, 5)), (2, (2, 188))] 3 (0, φ 6 3)) 4 (0, φ 6 1)) 5 (0, φ 6 2)) 6 (0, z1)) 7 (0, z36)) 8 (0, z37)) [(0, z38)] ψ37 y38 Q
          obtain ⟨hz39, ht39, hf39⟩ := H
          refine hw_if (a0 := 0) (b := 1) (e := 114) (by decide +kernel) hz39 (fun q => ?_) (fun q => ?_)
          · have H := ht39 q
            refine hw_goto (a0 := 0) (b := 0) (e := 134) (by decide +kernel) ?_
            refine hw_ald (b := 0) (e := 0) (by decide +kernel) (get_st1 (get_st1 (get_st1 (get_st1 (get_st1 (get_st1 rfl (by decide) (fun q => absurd q.1 (by decide))) (by decide) (fun q => absurd q.1 (by decide))) (by decide) (fun q => absurd q.1 (by decide))) (by decide) (fun q => absurd q.1 (by decide))) (by decide) (fun q => absurd q.1 (by decide))) (by decide) (fun q => absurd q.1 (by decide))) (by decide) ?_
            refine hw_ald (b := 1) (e := 0) (by decide +kernel) (get_st1 (get_st1 (get_st1 (get_st1 (get_st1 (get_st1 rfl (by decide) (fun q => absurd q.1 (by decide))) (by decide) (fun q => absurd q.1 (by decide))) (by decide) (fun q => absurd q.1 (by decide))) (by decide) (fun q => absurd q.1 (by decide))) (by decide) (fun q => absurd q.1 (by decide))) (by decide) (fun q => absurd q.1 (by decide))) (by decide) ?_
            refine hr_call (a0 := 14) (b := 91) (e := 2) (nl := 6) (As := [(2, 5)]) (R := []) 17 rfl (by decide +kernel) rfl rfl (Nat.le_of_ble_eq_true rfl) (Nat.le_of_ble_eq_true rfl) ?_
            refine hw_mono H ?_
            rintro r ψ40 y40 ⟨hyx, hr, H⟩
            subst hyx
            subst hr
            refine ⟨hnen, ?_⟩
            show hw sc (d + 3) 127 139 (jm_st1 (jm_st1 (jm_st1 (jm_st1 (jm_st1 (jm_st1 [(0, (2, 17)), (1, (2, 5)), (2, (2, 188))] 3 (0, φ 6 3)) 4 (0, φ 6 1)) 5 (0, φ 6 2)) 6 (0, z1)) 7 (0, z36)) 8 (0, z37)) [] ψ40 y40 Q
            exact hw_vret (a0 := 0) (e := 0) (by decide +kernel) H
          · have H := hf39 q
            refine hw_ald (b := 0) (e := 0) (by decide +kernel) (get_st1 (get_st1 (get_st1 (get_st1 (get_st1 (get_st1 rfl (by decide) (fun q => absurd q.1 (by decide))) (by decide) (fun q => absurd q.1 (by decide))) (by decide) (fun q => absurd q.1 (by decide))) (by decide) (fun q => absurd q.1 (by decide))) (by decide) (fun q => absurd q.1 (by decide))) (by decide) (fun q => absurd q.1 (by decide))) (by decide) ?_
            refine hw_ld (b := 7) (e := 1) (by decide +kernel) (get_st1 get_st1e (by decide) (fun q => tg0 q.2)) ?_
            refine hw_ld (b := 8) (e := 1) (by decide +kernel) get_st1e ?_
            refine hr_call (a0 := 14) (b := 55) (e := 3) (nl := 3) (As := [(0, z36), (0, z37)]) (R := []) 17 rfl (by decide +kernel) rfl rfl (Nat.le_of_ble_eq_true rfl) (Nat.le_of_ble_eq_true rfl) ?_
            refine hw_mono H ?_
            rintro r ψ42 y42 ⟨hyx, hr, H⟩
            subst hyx
            subst hr
            refine ⟨hnen, ?_⟩
            show hw sc (d + 3) 127 114 (jm_st1 (jm_st1 (jm_st1 (jm_st1 (jm_st1 (jm_st1 [(0, (2, 17)), (1, (2, 5)), (2, (2, 188))] 3 (0, φ 6 3)) 4 (0, φ 6 1)) 5 (0, φ 6 2)) 6 (0, z1)) 7 (0, z36)) 8 (0, z37)) [] ψ42 y42 Q
            refine hw_goto (a0 := 0) (b := 0) (e := 134) (by decide +kernel) ?_
            refine hw_ald (b := 0) (e := 0) (by decide +kernel) (get_st1 (get_st1 (get_st1 (get_st1 (get_st1 (get_st1 rfl (by decide) (fun q => absurd q.1 (by decide))) (by decide) (fun q => absurd q.1 (by decide))) (by decide) (fun q => absurd q.1 (by decide))) (by decide) (fun q => absurd q.1 (by decide))) (by decide) (fun q => absurd q.1 (by decide))) (by decide) (fun q => absurd q.1 (by decide))) (by decide) ?_
            refine hw_ald (b := 1) (e := 0) (by decide +kernel) (get_st1 (get_st1 (get_st1 (get_st1 (get_st1 (get_st1 rfl (by decide) (fun q => absurd q.1 (by decide))) (by decide) (fun q => absurd q.1 (by decide))) (by decide) (fun q => absurd q.1 (by decide))) (by decide) (fun q => absurd q.1 (by decide))) (by decide) (fun q => absurd q.1 (by decide))) (by decide) (fun q => absurd q.1 (by decide))) (by decide) ?_
            refine hr_call (a0 := 14) (b := 91) (e := 2) (nl := 6) (As := [(2, 5)]) (R := []) 17 rfl (by decide +kernel) rfl rfl (Nat.le_of_ble_eq_true rfl) (Nat.le_of_ble_eq_true rfl) ?_
            refine hw_mono H ?_
            rintro r ψ43 y43 ⟨hyx, hr, H⟩
            subst hyx
            subst hr
            refine ⟨hnen, ?_⟩
            show hw sc (d + 3) 127 139 (jm_st1 (jm_st1 (jm_st1 (jm_st1 (jm_st1 (jm_st1 [(0, (2, 17)), (1, (2, 5)), (2, (2, 188))] 3 (0, φ 6 3)) 4 (0, φ 6 1)) 5 (0, φ 6 2)) 6 (0, z1)) 7 (0, z36)) 8 (0, z37)) [] ψ43 y43 Q
            exact hw_vret (a0 := 0) (e := 0) (by decide +kernel) H
  · have H := hf2 q
    refine hw_ld (b := 3) (e := 0) (by decide +kernel) (get_st1 (get_st1 (get_st1 get_st1e (by decide) (fun q => tg0 q.2)) (by decide) (fun q => absurd q.1 (by decide))) (by decide) (fun q => absurd q.1 (by decide))) ?_
    obtain ⟨hz45, ht45, hf45⟩ := H
    refine hw_if (a0 := 0) (b := 5) (e := 67) (by decide +kernel) hz45 (fun q => ?_) (fun q => ?_)
    · have H := ht45 q
      refine hw_ld (b := 6) (e := 1) (by decide +kernel) get_st1e ?_
      refine hw_k (c := 1) (b := 0) (e := 1) (by decide +kernel) ?_
      obtain ⟨hz46, hy46, ht46, hf46⟩ := H
      refine hw_if2 (a0 := 0) (b := 1) (e := 117) (by decide +kernel) hz46 hy46 (fun q => ?_) (fun q => ?_)
      · have H := ht46 q
        refine hw_ld (b := 6) (e := 1) (by decide +kernel) get_st1e ?_
        refine hw_k (c := 2) (b := 0) (e := 1) (by decide +kernel) ?_
        obtain ⟨hz47, hy47, ht47, hf47⟩ := H
        refine hw_if2 (a0 := 0) (b := 1) (e := 134) (by decide +kernel) hz47 hy47 (fun q => ?_) (fun q => ?_)
        · have H := ht47 q
          refine hw_ald (b := 0) (e := 0) (by decide +kernel) (get_st1 (get_st1 (get_st1 (get_st1 rfl (by decide) (fun q => absurd q.1 (by decide))) (by decide) (fun q => absurd q.1 (by decide))) (by decide) (fun q => absurd q.1 (by decide))) (by decide) (fun q => absurd q.1 (by decide))) (by decide) ?_
          refine hw_ald (b := 1) (e := 0) (by decide +kernel) (get_st1 (get_st1 (get_st1 (get_st1 rfl (by decide) (fun q => absurd q.1 (by decide))) (by decide) (fun q => absurd q.1 (by decide))) (by decide) (fun q => absurd q.1 (by decide))) (by decide) (fun q => absurd q.1 (by decide))) (by decide) ?_
          refine hr_call (a0 := 14) (b := 91) (e := 2) (nl := 6) (As := [(2, 5)]) (R := []) 17 rfl (by decide +kernel) rfl rfl (Nat.le_of_ble_eq_true rfl) (Nat.le_of_ble_eq_true rfl) ?_
          refine hw_mono H ?_
          rintro r ψ48 y48 ⟨hyx, hr, H⟩
          subst hyx
          subst hr
          refine ⟨hnen, ?_⟩
          show hw sc (d + 3) 127 139 (jm_st1 (jm_st1 (jm_st1 (jm_st1 [(0, (2, 17)), (1, (2, 5)), (2, (2, 188))] 3 (0, φ 6 3)) 4 (0, φ 6 1)) 5 (0, φ 6 2)) 6 (0, z1)) [] ψ48 y48 Q
          exact hw_vret (a0 := 0) (e := 0) (by decide +kernel) H
        · have H := hf47 q
          refine hw_ald (b := 0) (e := 0) (by decide +kernel) (get_st1 (get_st1 (get_st1 (get_st1 rfl (by decide) (fun q => absurd q.1 (by decide))) (by decide) (fun q => absurd q.1 (by decide))) (by decide) (fun q => absurd q.1 (by decide))) (by decide) (fun q => absurd q.1 (by decide))) (by decide) ?_
          refine hr_call (a0 := 14) (b := 87) (e := 1) (nl := 1) (As := []) (R := []) 17 rfl (by decide +kernel) rfl rfl (Nat.le_of_ble_eq_true rfl) (Nat.le_of_ble_eq_true rfl) ?_
          refine hw_mono H ?_
          rintro r ψ50 y50 ⟨hyx, hψx, z50, hr, H⟩
          subst hyx
          subst hψx
          subst hr
          refine ⟨hne0, ?_⟩
          show hw sc (d + 3) 127 127 (jm_st1 (jm_st1 (jm_st1 (jm_st1 [(0, (2, 17)), (1, (2, 5)), (2, (2, 188))] 3 (0, φ 6 3)) 4 (0, φ 6 1)) 5 (0, φ 6 2)) 6 (0, z1)) [(0, z50)] ψ1 y50 Q
          obtain ⟨hz51, ht51, hf51⟩ := H
          refine hw_if (a0 := 0) (b := 1) (e := 134) (by decide +kernel) hz51 (fun q => ?_) (fun q => ?_)
          · have H := ht51 q
            refine hw_ald (b := 0) (e := 0) (by decide +kernel) (get_st1 (get_st1 (get_st1 (get_st1 rfl (by decide) (fun q => absurd q.1 (by decide))) (by decide) (fun q => absurd q.1 (by decide))) (by decide) (fun q => absurd q.1 (by decide))) (by decide) (fun q => absurd q.1 (by decide))) (by decide) ?_
            refine hw_ald (b := 1) (e := 0) (by decide +kernel) (get_st1 (get_st1 (get_st1 (get_st1 rfl (by decide) (fun q => absurd q.1 (by decide))) (by decide) (fun q => absurd q.1 (by decide))) (by decide) (fun q => absurd q.1 (by decide))) (by decide) (fun q => absurd q.1 (by decide))) (by decide) ?_
            refine hr_call (a0 := 14) (b := 91) (e := 2) (nl := 6) (As := [(2, 5)]) (R := []) 17 rfl (by decide +kernel) rfl rfl (Nat.le_of_ble_eq_true rfl) (Nat.le_of_ble_eq_true rfl) ?_
            refine hw_mono H ?_
            rintro r ψ52 y52 ⟨hyx, hr, H⟩
            subst hyx
            subst hr
            refine ⟨hnen, ?_⟩
            show hw sc (d + 3) 127 139 (jm_st1 (jm_st1 (jm_st1 (jm_st1 [(0, (2, 17)), (1, (2, 5)), (2, (2, 188))] 3 (0, φ 6 3)) 4 (0, φ 6 1)) 5 (0, φ 6 2)) 6 (0, z1)) [] ψ52 y52 Q
            exact hw_vret (a0 := 0) (e := 0) (by decide +kernel) H
          · have H := hf51 q
            refine hw_ald (b := 0) (e := 0) (by decide +kernel) (get_st1 (get_st1 (get_st1 (get_st1 rfl (by decide) (fun q => absurd q.1 (by decide))) (by decide) (fun q => absurd q.1 (by decide))) (by decide) (fun q => absurd q.1 (by decide))) (by decide) (fun q => absurd q.1 (by decide))) (by decide) ?_
            refine hr_call (a0 := 14) (b := 88) (e := 1) (nl := 1) (As := []) (R := []) 17 rfl (by decide +kernel) rfl rfl (Nat.le_of_ble_eq_true rfl) (Nat.le_of_ble_eq_true rfl) ?_
            refine hw_mono H ?_
            rintro r ψ54 y54 ⟨hyx, hr, H⟩
            subst hyx
            subst hr
            refine ⟨hnen, ?_⟩
            show hw sc (d + 3) 127 134 (jm_st1 (jm_st1 (jm_st1 (jm_st1 [(0, (2, 17)), (1, (2, 5)), (2, (2, 188))] 3 (0, φ 6 3)) 4 (0, φ 6 1)) 5 (0, φ 6 2)) 6 (0, z1)) [] ψ54 y54 Q
            refine hw_ald (b := 0) (e := 0) (by decide +kernel) (get_st1 (get_st1 (get_st1 (get_st1 rfl (by decide) (fun q => absurd q.1 (by decide))) (by decide) (fun q => absurd q.1 (by decide))) (by decide) (fun q => absurd q.1 (by decide))) (by decide) (fun q => absurd q.1 (by decide))) (by decide) ?_
            refine hw_ald (b := 1) (e := 0) (by decide +kernel) (get_st1 (get_st1 (get_st1 (get_st1 rfl (by decide) (fun q => absurd q.1 (by decide))) (by decide) (fun q => absurd q.1 (by decide))) (by decide) (fun q => absurd q.1 (by decide))) (by decide) (fun q => absurd q.1 (by decide))) (by decide) ?_
            refine hr_call (a0 := 14) (b := 91) (e := 2) (nl := 6) (As := [(2, 5)]) (R := []) 17 rfl (by decide +kernel) rfl rfl (Nat.le_of_ble_eq_true rfl) (Nat.le_of_ble_eq_true rfl) ?_
            refine hw_mono H ?_
            rintro r ψ55 y55 ⟨hyx, hr, H⟩
            subst hyx
            subst hr
            refine ⟨hnen, ?_⟩
            show hw sc (d + 3) 127 139 (jm_st1 (jm_st1 (jm_st1 (jm_st1 [(0, (2, 17)), (1, (2, 5)), (2, (2, 188))] 3 (0, φ 6 3)) 4 (0, φ 6 1)) 5 (0, φ 6 2)) 6 (0, z1)) [] ψ55 y55 Q
            exact hw_vret (a0 := 0) (e := 0) (by decide +kernel) H
      · have H := hf46 q
        refine hw_ld (b := 3) (e := 0) (by decide +kernel) (get_st1 (get_st1 (get_st1 get_st1e (by decide) (fun q => tg0 q.2)) (by decide) (fun q => absurd q.1 (by decide))) (by decide) (fun q => absurd q.1 (by decide))) ?_
        obtain ⟨hz57, ht57, hf57⟩ := H
        refine hw_if (a0 := 0) (b := 5) (e := 117) (by decide +kernel) hz57 (fun q => ?_) (fun q => ?_)
        · have H := ht57 q
          refine hw_ld (b := 6) (e := 1) (by decide +kernel) get_st1e ?_
          refine hw_k (c := 2) (b := 0) (e := 1) (by decide +kernel) ?_
          obtain ⟨hz58, hy58, ht58, hf58⟩ := H
          refine hw_if2 (a0 := 0) (b := 1) (e := 134) (by decide +kernel) hz58 hy58 (fun q => ?_) (fun q => ?_)
          · have H := ht58 q
            refine hw_ald (b := 0) (e := 0) (by decide +kernel) (get_st1 (get_st1 (get_st1 (get_st1 rfl (by decide) (fun q => absurd q.1 (by decide))) (by decide) (fun q => absurd q.1 (by decide))) (by decide) (fun q => absurd q.1 (by decide))) (by decide) (fun q => absurd q.1 (by decide))) (by decide) ?_
            refine hw_ald (b := 1) (e := 0) (by decide +kernel) (get_st1 (get_st1 (get_st1 (get_st1 rfl (by decide) (fun q => absurd q.1 (by decide))) (by decide) (fun q => absurd q.1 (by decide))) (by decide) (fun q => absurd q.1 (by decide))) (by decide) (fun q => absurd q.1 (by decide))) (by decide) ?_
            refine hr_call (a0 := 14) (b := 91) (e := 2) (nl := 6) (As := [(2, 5)]) (R := []) 17 rfl (by decide +kernel) rfl rfl (Nat.le_of_ble_eq_true rfl) (Nat.le_of_ble_eq_true rfl) ?_
            refine hw_mono H ?_
            rintro r ψ59 y59 ⟨hyx, hr, H⟩
            subst hyx
            subst hr
            refine ⟨hnen, ?_⟩
            show hw sc (d + 3) 127 139 (jm_st1 (jm_st1 (jm_st1 (jm_st1 [(0, (2, 17)), (1, (2, 5)), (2, (2, 188))] 3 (0, φ 6 3)) 4 (0, φ 6 1)) 5 (0, φ 6 2)) 6 (0, z1)) [] ψ59 y59 Q
            exact hw_vret (a0 := 0) (e := 0) (by decide +kernel) H
          · have H := hf58 q
            refine hw_ald (b := 0) (e := 0) (by decide +kernel) (get_st1 (get_st1 (get_st1 (get_st1 rfl (by decide) (fun q => absurd q.1 (by decide))) (by decide) (fun q => absurd q.1 (by decide))) (by decide) (fun q => absurd q.1 (by decide))) (by decide) (fun q => absurd q.1 (by decide))) (by decide) ?_
            refine hr_call (a0 := 14) (b := 87) (e := 1) (nl := 1) (As := []) (R := []) 17 rfl (by decide +kernel) rfl rfl (Nat.le_of_ble_eq_true rfl) (Nat.le_of_ble_eq_true rfl) ?_
            refine hw_mono H ?_
            rintro r ψ61 y61 ⟨hyx, hψx, z61, hr, H⟩
            subst hyx
            subst hψx
            subst hr
            refine ⟨hne0, ?_⟩
            show hw sc (d + 3) 127 127 (jm_st1 (jm_st1 (jm_st1 (jm_st1 [(0, (2, 17)), (1, (2, 5)), (2, (2, 188))] 3 (0, φ 6 3)) 4 (0, φ 6 1)) 5 (0, φ 6 2)) 6 (0, z1)) [(0, z61)] ψ1 y61 Q
            obtain ⟨hz62, ht62, hf62⟩ := H
            refine hw_if (a0 := 0) (b := 1) (e := 134) (by decide +kernel) hz62 (fun q => ?_) (fun q => ?_)
            · have H := ht62 q
              refine hw_ald (b := 0) (e := 0) (by decide +kernel) (get_st1 (get_st1 (get_st1 (get_st1 rfl (by decide) (fun q => absurd q.1 (by decide))) (by decide) (fun q => absurd q.1 (by decide))) (by decide) (fun q => absurd q.1 (by decide))) (by decide) (fun q => absurd q.1 (by decide))) (by decide) ?_
              refine hw_ald (b := 1) (e := 0) (by decide +kernel) (get_st1 (get_st1 (get_st1 (get_st1 rfl (by decide) (fun q => absurd q.1 (by decide))) (by decide) (fun q => absurd q.1 (by decide))) (by decide) (fun q => absurd q.1 (by decide))) (by decide) (fun q => absurd q.1 (by decide))) (by decide) ?_
              refine hr_call (a0 := 14) (b := 91) (e := 2) (nl := 6) (As := [(2, 5)]) (R := []) 17 rfl (by decide +kernel) rfl rfl (Nat.le_of_ble_eq_true rfl) (Nat.le_of_ble_eq_true rfl) ?_
              refine hw_mono H ?_
              rintro r ψ63 y63 ⟨hyx, hr, H⟩
              subst hyx
              subst hr
              refine ⟨hnen, ?_⟩
              show hw sc (d + 3) 127 139 (jm_st1 (jm_st1 (jm_st1 (jm_st1 [(0, (2, 17)), (1, (2, 5)), (2, (2, 188))] 3 (0, φ 6 3)) 4 (0, φ 6 1)) 5 (0, φ 6 2)) 6 (0, z1)) [] ψ63 y63 Q
              exact hw_vret (a0 := 0) (e := 0) (by decide +kernel) H
            · have H := hf62 q
              refine hw_ald (b := 0) (e := 0) (by decide +kernel) (get_st1 (get_st1 (get_st1 (get_st1 rfl (by decide) (fun q => absurd q.1 (by decide))) (by decide) (fun q => absurd q.1 (by decide))) (by decide) (fun q => absurd q.1 (by decide))) (by decide) (fun q => absurd q.1 (by decide))) (by decide) ?_
              refine hr_call (a0 := 14) (b := 88) (e := 1) (nl := 1) (As := []) (R := []) 17 rfl (by decide +kernel) rfl rfl (Nat.le_of_ble_eq_true rfl) (Nat.le_of_ble_eq_true rfl) ?_
              refine hw_mono H ?_
              rintro r ψ65 y65 ⟨hyx, hr, H⟩
              subst hyx
              subst hr
              refine ⟨hnen, ?_⟩
              show hw sc (d + 3) 127 134 (jm_st1 (jm_st1 (jm_st1 (jm_st1 [(0, (2, 17)), (1, (2, 5)), (2, (2, 188))] 3 (0, φ 6 3)) 4 (0, φ 6 1)) 5 (0, φ 6 2)) 6 (0, z1)) [] ψ65 y65 Q
              refine hw_ald (b := 0) (e := 0) (by decide +kernel) (get_st1 (get_st1 (get_st1 (get_st1 rfl (by decide) (fun q => absurd q.1 (by decide))) (by decide) (fun q => absurd q.1 (by decide))) (by decide) (fun q => absurd q.1 (by decide))) (by decide) (fun q => absurd q.1 (by decide))) (by decide) ?_
              refine hw_ald (b := 1) (e := 0) (by decide +kernel) (get_st1 (get_st1 (get_st1 (get_st1 rfl (by decide) (fun q => absurd q.1 (by decide))) (by decide) (fun q => absurd q.1 (by decide))) (by decide) (fun q => absurd q.1 (by decide))) (by decide) (fun q => absurd q.1 (by decide))) (by decide) ?_
              refine hr_call (a0 := 14) (b := 91) (e := 2) (nl := 6) (As := [(2, 5)]) (R := []) 17 rfl (by decide +kernel) rfl rfl (Nat.le_of_ble_eq_true rfl) (Nat.le_of_ble_eq_true rfl) ?_
              refine hw_mono H ?_
              rintro r ψ66 y66 ⟨hyx, hr, H⟩
              subst hyx
              subst hr
              refine ⟨hnen, ?_⟩
              show hw sc (d + 3) 127 139 (jm_st1 (jm_st1 (jm_st1 (jm_st1 [(0, (2, 17)), (1, (2, 5)), (2, (2, 188))] 3 (0, φ 6 3)) 4 (0, φ 6 1)) 5 (0, φ 6 2)) 6 (0, z1)) [] ψ66 y66 Q
              exact hw_vret (a0 := 0) (e := 0) (by decide +kernel) H
        · have H := hf57 q
          refine hw_ld (b := 5) (e := 1) (by decide +kernel) (get_st1 get_st1e (by decide) (fun q => tg0 q.2)) ?_
          obtain ⟨hz68, ht68, hf68⟩ := H
          refine hw_if (a0 := 0) (b := 5) (e := 117) (by decide +kernel) hz68 (fun q => ?_) (fun q => ?_)
          · have H := ht68 q
            refine hw_ld (b := 6) (e := 1) (by decide +kernel) get_st1e ?_
            refine hw_k (c := 2) (b := 0) (e := 1) (by decide +kernel) ?_
            obtain ⟨hz69, hy69, ht69, hf69⟩ := H
            refine hw_if2 (a0 := 0) (b := 1) (e := 134) (by decide +kernel) hz69 hy69 (fun q => ?_) (fun q => ?_)
            · have H := ht69 q
              refine hw_ald (b := 0) (e := 0) (by decide +kernel) (get_st1 (get_st1 (get_st1 (get_st1 rfl (by decide) (fun q => absurd q.1 (by decide))) (by decide) (fun q => absurd q.1 (by decide))) (by decide) (fun q => absurd q.1 (by decide))) (by decide) (fun q => absurd q.1 (by decide))) (by decide) ?_
              refine hw_ald (b := 1) (e := 0) (by decide +kernel) (get_st1 (get_st1 (get_st1 (get_st1 rfl (by decide) (fun q => absurd q.1 (by decide))) (by decide) (fun q => absurd q.1 (by decide))) (by decide) (fun q => absurd q.1 (by decide))) (by decide) (fun q => absurd q.1 (by decide))) (by decide) ?_
              refine hr_call (a0 := 14) (b := 91) (e := 2) (nl := 6) (As := [(2, 5)]) (R := []) 17 rfl (by decide +kernel) rfl rfl (Nat.le_of_ble_eq_true rfl) (Nat.le_of_ble_eq_true rfl) ?_
              refine hw_mono H ?_
              rintro r ψ70 y70 ⟨hyx, hr, H⟩
              subst hyx
              subst hr
              refine ⟨hnen, ?_⟩
              show hw sc (d + 3) 127 139 (jm_st1 (jm_st1 (jm_st1 (jm_st1 [(0, (2, 17)), (1, (2, 5)), (2, (2, 188))] 3 (0, φ 6 3)) 4 (0, φ 6 1)) 5 (0, φ 6 2)) 6 (0, z1)) [] ψ70 y70 Q
              exact hw_vret (a0 := 0) (e := 0) (by decide +kernel) H
            · have H := hf69 q
              refine hw_ald (b := 0) (e := 0) (by decide +kernel) (get_st1 (get_st1 (get_st1 (get_st1 rfl (by decide) (fun q => absurd q.1 (by decide))) (by decide) (fun q => absurd q.1 (by decide))) (by decide) (fun q => absurd q.1 (by decide))) (by decide) (fun q => absurd q.1 (by decide))) (by decide) ?_
              refine hr_call (a0 := 14) (b := 87) (e := 1) (nl := 1) (As := []) (R := []) 17 rfl (by decide +kernel) rfl rfl (Nat.le_of_ble_eq_true rfl) (Nat.le_of_ble_eq_true rfl) ?_
              refine hw_mono H ?_
              rintro r ψ72 y72 ⟨hyx, hψx, z72, hr, H⟩
              subst hyx
              subst hψx
              subst hr
              refine ⟨hne0, ?_⟩
              show hw sc (d + 3) 127 127 (jm_st1 (jm_st1 (jm_st1 (jm_st1 [(0, (2, 17)), (1, (2, 5)), (2, (2, 188))] 3 (0, φ 6 3)) 4 (0, φ 6 1)) 5 (0, φ 6 2)) 6 (0, z1)) [(0, z72)] ψ1 y72 Q
              obtain ⟨hz73, ht73, hf73⟩ := H
              refine hw_if (a0 := 0) (b := 1) (e := 134) (by decide +kernel) hz73 (fun q => ?_) (fun q => ?_)
              · have H := ht73 q
                refine hw_ald (b := 0) (e := 0) (by decide +kernel) (get_st1 (get_st1 (get_st1 (get_st1 rfl (by decide) (fun q => absurd q.1 (by decide))) (by decide) (fun q => absurd q.1 (by decide))) (by decide) (fun q => absurd q.1 (by decide))) (by decide) (fun q => absurd q.1 (by decide))) (by decide) ?_
                refine hw_ald (b := 1) (e := 0) (by decide +kernel) (get_st1 (get_st1 (get_st1 (get_st1 rfl (by decide) (fun q => absurd q.1 (by decide))) (by decide) (fun q => absurd q.1 (by decide))) (by decide) (fun q => absurd q.1 (by decide))) (by decide) (fun q => absurd q.1 (by decide))) (by decide) ?_
                refine hr_call (a0 := 14) (b := 91) (e := 2) (nl := 6) (As := [(2, 5)]) (R := []) 17 rfl (by decide +kernel) rfl rfl (Nat.le_of_ble_eq_true rfl) (Nat.le_of_ble_eq_true rfl) ?_
                refine hw_mono H ?_
                rintro r ψ74 y74 ⟨hyx, hr, H⟩
                subst hyx
                subst hr
                refine ⟨hnen, ?_⟩
                show hw sc (d + 3) 127 139 (jm_st1 (jm_st1 (jm_st1 (jm_st1 [(0, (2, 17)), (1, (2, 5)), (2, (2, 188))] 3 (0, φ 6 3)) 4 (0, φ 6 1)) 5 (0, φ 6 2)) 6 (0, z1)) [] ψ74 y74 Q
                exact hw_vret (a0 := 0) (e := 0) (by decide +kernel) H
              · have H := hf73 q
                refine hw_ald (b := 0) (e := 0) (by decide +kernel) (get_st1 (get_st1 (get_st1 (get_st1 rfl (by decide) (fun q => absurd q.1 (by decide))) (by decide) (fun q => absurd q.1 (by decide))) (by decide) (fun q => absurd q.1 (by decide))) (by decide) (fun q => absurd q.1 (by decide))) (by decide) ?_
                refine hr_call (a0 := 14) (b := 88) (e := 1) (nl := 1) (As := []) (R := []) 17 rfl (by decide +kernel) rfl rfl (Nat.le_of_ble_eq_true rfl) (Nat.le_of_ble_eq_true rfl) ?_
                refine hw_mono H ?_
                rintro r ψ76 y76 ⟨hyx, hr, H⟩
                subst hyx
                subst hr
                refine ⟨hnen, ?_⟩
                show hw sc (d + 3) 127 134 (jm_st1 (jm_st1 (jm_st1 (jm_st1 [(0, (2, 17)), (1, (2, 5)), (2, (2, 188))] 3 (0, φ 6 3)) 4 (0, φ 6 1)) 5 (0, φ 6 2)) 6 (0, z1)) [] ψ76 y76 Q
                refine hw_ald (b := 0) (e := 0) (by decide +kernel) (get_st1 (get_st1 (get_st1 (get_st1 rfl (by decide) (fun q => absurd q.1 (by decide))) (by decide) (fun q => absurd q.1 (by decide))) (by decide) (fun q => absurd q.1 (by decide))) (by decide) (fun q => absurd q.1 (by decide))) (by decide) ?_
                refine hw_ald (b := 1) (e := 0) (by decide +kernel) (get_st1 (get_st1 (get_st1 (get_st1 rfl (by decide) (fun q => absurd q.1 (by decide))) (by decide) (fun q => absurd q.1 (by decide))) (by decide) (fun q => absurd q.1 (by decide))) (by decide) (fun q => absurd q.1 (by decide))) (by decide) ?_
                refine hr_call (a0 := 14) (b := 91) (e := 2) (nl := 6) (As := [(2, 5)]) (R := []) 17 rfl (by decide +kernel) rfl rfl (Nat.le_of_ble_eq_true rfl) (Nat.le_of_ble_eq_true rfl) ?_
                refine hw_mono H ?_
                rintro r ψ77 y77 ⟨hyx, hr, H⟩
                subst hyx
                subst hr
                refine ⟨hnen, ?_⟩
                show hw sc (d + 3) 127 139 (jm_st1 (jm_st1 (jm_st1 (jm_st1 [(0, (2, 17)), (1, (2, 5)), (2, (2, 188))] 3 (0, φ 6 3)) 4 (0, φ 6 1)) 5 (0, φ 6 2)) 6 (0, z1)) [] ψ77 y77 Q
                exact hw_vret (a0 := 0) (e := 0) (by decide +kernel) H
          · have H := hf68 q
            refine hw_ald (b := 2) (e := 0) (by decide +kernel) (get_st1 (get_st1 (get_st1 (get_st1 rfl (by decide) (fun q => tg2 q.2)) (by decide) (fun q => absurd q.1 (by decide))) (by decide) (fun q => absurd q.1 (by decide))) (by decide) (fun q => absurd q.1 (by decide))) (by decide) ?_
            refine hw_ld (b := 3) (e := 0) (by decide +kernel) (get_st1 (get_st1 (get_st1 get_st1e (by decide) (fun q => tg0 q.2)) (by decide) (fun q => absurd q.1 (by decide))) (by decide) (fun q => absurd q.1 (by decide))) ?_
            refine hr_call (a0 := 20) (b := 128) (e := 2) (nl := 2) (As := [(0, φ 6 3)]) (R := []) 188 rfl (by decide +kernel) rfl rfl (Nat.le_of_ble_eq_true rfl) (Nat.le_of_ble_eq_true rfl) ?_
            refine hw_mono H ?_
            rintro r ψ79 y79 ⟨hyx, z79, hr, H⟩
            subst hyx
            subst hr
            refine ⟨hne0, ?_⟩
            show hw sc (d + 3) 127 87 (jm_st1 (jm_st1 (jm_st1 (jm_st1 [(0, (2, 17)), (1, (2, 5)), (2, (2, 188))] 3 (0, φ 6 3)) 4 (0, φ 6 1)) 5 (0, φ 6 2)) 6 (0, z1)) [(0, z79)] ψ79 y79 Q
            refine hw_st (L' := (jm_st1 (jm_st1 (jm_st1 (jm_st1 (jm_st1 [(0, (2, 17)), (1, (2, 5)), (2, (2, 188))] 3 (0, φ 6 3)) 4 (0, φ 6 1)) 5 (0, φ 6 2)) 6 (0, z1)) 7 (0, z79))) (b := 7) (e := 1) (by decide +kernel) rfl ?_
            refine hw_ald (b := 2) (e := 0) (by decide +kernel) (get_st1 (get_st1 (get_st1 (get_st1 (get_st1 rfl (by decide) (fun q => tg2 q.2)) (by decide) (fun q => absurd q.1 (by decide))) (by decide) (fun q => absurd q.1 (by decide))) (by decide) (fun q => absurd q.1 (by decide))) (by decide) (fun q => absurd q.1 (by decide))) (by decide) ?_
            refine hw_ld (b := 5) (e := 1) (by decide +kernel) (get_st1 (get_st1 get_st1e (by decide) (fun q => tg0 q.2)) (by decide) (fun q => absurd q.1 (by decide))) ?_
            refine hr_call (a0 := 20) (b := 128) (e := 2) (nl := 2) (As := [(0, φ 6 2)]) (R := []) 188 rfl (by decide +kernel) rfl rfl (Nat.le_of_ble_eq_true rfl) (Nat.le_of_ble_eq_true rfl) ?_
            refine hw_mono H ?_
            rintro r ψ80 y80 ⟨hyx, z80, hr, H⟩
            subst hyx
            subst hr
            refine ⟨hne0, ?_⟩
            show hw sc (d + 3) 127 95 (jm_st1 (jm_st1 (jm_st1 (jm_st1 (jm_st1 [(0, (2, 17)), (1, (2, 5)), (2, (2, 188))] 3 (0, φ 6 3)) 4 (0, φ 6 1)) 5 (0, φ 6 2)) 6 (0, z1)) 7 (0, z79)) [(0, z80)] ψ80 y80 Q
            refine hw_st (L' := (jm_st1 (jm_st1 (jm_st1 (jm_st1 (jm_st1 (jm_st1 [(0, (2, 17)), (1, (2, 5)), (2, (2, 188))] 3 (0, φ 6 3)) 4 (0, φ 6 1)) 5 (0, φ 6 2)) 6 (0, z1)) 7 (0, z79)) 8 (0, z80))) (b := 8) (e := 1) (by decide +kernel) rfl ?_
            refine hw_ald (b := 0) (e := 0) (by decide +kernel) (get_st1 (get_st1 (get_st1 (get_st1 (get_st1 (get_st1 rfl (by decide) (fun q => absurd q.1 (by decide))) (by decide) (fun q => absurd q.1 (by decide))) (by decide) (fun q => absurd q.1 (by decide))) (by decide) (fun q => absurd q.1 (by decide))) (by decide) (fun q => absurd q.1 (by decide))) (by decide) (fun q => absurd q.1 (by decide))) (by decide) ?_
            refine hw_ld (b := 7) (e := 1) (by decide +kernel) (get_st1 get_st1e (by decide) (fun q => tg0 q.2)) ?_
            refine hr_call (a0 := 14) (b := 54) (e := 2) (nl := 2) (As := [(0, z79)]) (R := []) 17 rfl (by decide +kernel) rfl rfl (Nat.le_of_ble_eq_true rfl) (Nat.le_of_ble_eq_true rfl) ?_
            refine hw_mono H ?_
            rintro r ψ81 y81 ⟨hyx, hψx, z81, hr, H⟩
            subst hyx
            subst hψx
            subst hr
            refine ⟨hne0, ?_⟩
            show hw sc (d + 3) 127 103 (jm_st1 (jm_st1 (jm_st1 (jm_st1 (jm_st1 (jm_st1 [(0, (2, 17)), (1, (2, 5)), (2, (2, 188))] 3 (0, φ 6 3)) 4 (0, φ 6 1)) 5 (0, φ 6 2)) 6 (0, z1)) 7 (0, z79)) 8 (0, z80)) [(0, z81)] ψ80 y81 Q
            obtain ⟨hz82, ht82, hf82⟩ := H
            refine hw_if (a0 := 0) (b := 1) (e := 114) (by decide +kernel) hz82 (fun q => ?_) (fun q => ?_)
            · have H := ht82 q
              refine hw_goto (a0 := 0) (b := 0) (e := 134) (by decide +kernel) ?_
              refine hw_ald (b := 0) (e := 0) (by decide +kernel) (get_st1 (get_st1 (get_st1 (get_st1 (get_st1 (get_st1 rfl (by decide) (fun q => absurd q.1 (by decide))) (by decide) (fun q => absurd q.1 (by decide))) (by decide) (fun q => absurd q.1 (by decide))) (by decide) (fun q => absurd q.1 (by decide))) (by decide) (fun q => absurd q.1 (by decide))) (by decide) (fun q => absurd q.1 (by decide))) (by decide) ?_
              refine hw_ald (b := 1) (e := 0) (by decide +kernel) (get_st1 (get_st1 (get_st1 (get_st1 (get_st1 (get_st1 rfl (by decide) (fun q => absurd q.1 (by decide))) (by decide) (fun q => absurd q.1 (by decide))) (by decide) (fun q => absurd q.1 (by decide))) (by decide) (fun q => absurd q.1 (by decide))) (by decide) (fun q => absurd q.1 (by decide))) (by decide) (fun q => absurd q.1 (by decide))) (by decide) ?_
              refine hr_call (a0 := 14) (b := 91) (e := 2) (nl := 6) (As := [(2, 5)]) (R := []) 17 rfl (by decide +kernel) rfl rfl (Nat.le_of_ble_eq_true rfl) (Nat.le_of_ble_eq_true rfl) ?_
              refine hw_mono H ?_
              rintro r ψ83 y83 ⟨hyx, hr, H⟩
              subst hyx
              subst hr
              refine ⟨hnen, ?_⟩
              show hw sc (d + 3) 127 139 (jm_st1 (jm_st1 (jm_st1 (jm_st1 (jm_st1 (jm_st1 [(0, (2, 17)), (1, (2, 5)), (2, (2, 188))] 3 (0, φ 6 3)) 4 (0, φ 6 1)) 5 (0, φ 6 2)) 6 (0, z1)) 7 (0, z79)) 8 (0, z80)) [] ψ83 y83 Q
              exact hw_vret (a0 := 0) (e := 0) (by decide +kernel) H
            · have H := hf82 q
              refine hw_ald (b := 0) (e := 0) (by decide +kernel) (get_st1 (get_st1 (get_st1 (get_st1 (get_st1 (get_st1 rfl (by decide) (fun q => absurd q.1 (by decide))) (by decide) (fun q => absurd q.1 (by decide))) (by decide) (fun q => absurd q.1 (by decide))) (by decide) (fun q => absurd q.1 (by decide))) (by decide) (fun q => absurd q.1 (by decide))) (by decide) (fun q => absurd q.1 (by decide))) (by decide) ?_
              refine hw_ld (b := 7) (e := 1) (by decide +kernel) (get_st1 get_st1e (by decide) (fun q => tg0 q.2)) ?_
              refine hw_ld (b := 8) (e := 1) (by decide +kernel) get_st1e ?_
              refine hr_call (a0 := 14) (b := 55) (e := 3) (nl := 3) (As := [(0, z79), (0, z80)]) (R := []) 17 rfl (by decide +kernel) rfl rfl (Nat.le_of_ble_eq_true rfl) (Nat.le_of_ble_eq_true rfl) ?_
              refine hw_mono H ?_
              rintro r ψ85 y85 ⟨hyx, hr, H⟩
              subst hyx
              subst hr
              refine ⟨hnen, ?_⟩
              show hw sc (d + 3) 127 114 (jm_st1 (jm_st1 (jm_st1 (jm_st1 (jm_st1 (jm_st1 [(0, (2, 17)), (1, (2, 5)), (2, (2, 188))] 3 (0, φ 6 3)) 4 (0, φ 6 1)) 5 (0, φ 6 2)) 6 (0, z1)) 7 (0, z79)) 8 (0, z80)) [] ψ85 y85 Q
              refine hw_goto (a0 := 0) (b := 0) (e := 134) (by decide +kernel) ?_
              refine hw_ald (b := 0) (e := 0) (by decide +kernel) (get_st1 (get_st1 (get_st1 (get_st1 (get_st1 (get_st1 rfl (by decide) (fun q => absurd q.1 (by decide))) (by decide) (fun q => absurd q.1 (by decide))) (by decide) (fun q => absurd q.1 (by decide))) (by decide) (fun q => absurd q.1 (by decide))) (by decide) (fun q => absurd q.1 (by decide))) (by decide) (fun q => absurd q.1 (by decide))) (by decide) ?_
              refine hw_ald (b := 1) (e := 0) (by decide +kernel) (get_st1 (get_st1 (get_st1 (get_st1 (get_st1 (get_st1 rfl (by decide) (fun q => absurd q.1 (by decide))) (by decide) (fun q => absurd q.1 (by decide))) (by decide) (fun q => absurd q.1 (by decide))) (by decide) (fun q => absurd q.1 (by decide))) (by decide) (fun q => absurd q.1 (by decide))) (by decide) (fun q => absurd q.1 (by decide))) (by decide) ?_
              refine hr_call (a0 := 14) (b := 91) (e := 2) (nl := 6) (As := [(2, 5)]) (R := []) 17 rfl (by decide +kernel) rfl rfl (Nat.le_of_ble_eq_true rfl) (Nat.le_of_ble_eq_true rfl) ?_
              refine hw_mono H ?_
              rintro r ψ86 y86 ⟨hyx, hr, H⟩
              subst hyx
              subst hr
              refine ⟨hnen, ?_⟩
              show hw sc (d + 3) 127 139 (jm_st1 (jm_st1 (jm_st1 (jm_st1 (jm_st1 (jm_st1 [(0, (2, 17)), (1, (2, 5)), (2, (2, 188))] 3 (0, φ 6 3)) 4 (0, φ 6 1)) 5 (0, φ 6 2)) 6 (0, z1)) 7 (0, z79)) 8 (0, z80)) [] ψ86 y86 Q
              exact hw_vret (a0 := 0) (e := 0) (by decide +kernel) H
    · have H := hf45 q
      refine hw_ld (b := 4) (e := 1) (by decide +kernel) (get_st1 (get_st1 get_st1e (by decide) (fun q => tg0 q.2)) (by decide) (fun q => absurd q.1 (by decide))) ?_
      obtain ⟨hz88, ht88, hf88⟩ := H
      refine hw_if (a0 := 0) (b := 5) (e := 67) (by decide +kernel) hz88 (fun q => ?_) (fun q => ?_)
      · have H := ht88 q
        refine hw_ld (b := 6) (e := 1) (by decide +kernel) get_st1e ?_
        refine hw_k (c := 1) (b := 0) (e := 1) (by decide +kernel) ?_
        obtain ⟨hz89, hy89, ht89, hf89⟩ := H
        refine hw_if2 (a0 := 0) (b := 1) (e := 117) (by decide +kernel) hz89 hy89 (fun q => ?_) (fun q => ?_)
        · have H := ht89 q
          refine hw_ld (b := 6) (e := 1) (by decide +kernel) get_st1e ?_
          refine hw_k (c := 2) (b := 0) (e := 1) (by decide +kernel) ?_
          obtain ⟨hz90, hy90, ht90, hf90⟩ := H
          refine hw_if2 (a0 := 0) (b := 1) (e := 134) (by decide +kernel) hz90 hy90 (fun q => ?_) (fun q => ?_)
          · have H := ht90 q
            refine hw_ald (b := 0) (e := 0) (by decide +kernel) (get_st1 (get_st1 (get_st1 (get_st1 rfl (by decide) (fun q => absurd q.1 (by decide))) (by decide) (fun q => absurd q.1 (by decide))) (by decide) (fun q => absurd q.1 (by decide))) (by decide) (fun q => absurd q.1 (by decide))) (by decide) ?_
            refine hw_ald (b := 1) (e := 0) (by decide +kernel) (get_st1 (get_st1 (get_st1 (get_st1 rfl (by decide) (fun q => absurd q.1 (by decide))) (by decide) (fun q => absurd q.1 (by decide))) (by decide) (fun q => absurd q.1 (by decide))) (by decide) (fun q => absurd q.1 (by decide))) (by decide) ?_
            refine hr_call (a0 := 14) (b := 91) (e := 2) (nl := 6) (As := [(2, 5)]) (R := []) 17 rfl (by decide +kernel) rfl rfl (Nat.le_of_ble_eq_true rfl) (Nat.le_of_ble_eq_true rfl) ?_
            refine hw_mono H ?_
            rintro r ψ91 y91 ⟨hyx, hr, H⟩
            subst hyx
            subst hr
            refine ⟨hnen, ?_⟩
            show hw sc (d + 3) 127 139 (jm_st1 (jm_st1 (jm_st1 (jm_st1 [(0, (2, 17)), (1, (2, 5)), (2, (2, 188))] 3 (0, φ 6 3)) 4 (0, φ 6 1)) 5 (0, φ 6 2)) 6 (0, z1)) [] ψ91 y91 Q
            exact hw_vret (a0 := 0) (e := 0) (by decide +kernel) H
          · have H := hf90 q
            refine hw_ald (b := 0) (e := 0) (by decide +kernel) (get_st1 (get_st1 (get_st1 (get_st1 rfl (by decide) (fun q => absurd q.1 (by decide))) (by decide) (fun q => absurd q.1 (by decide))) (by decide) (fun q => absurd q.1 (by decide))) (by decide) (fun q => absurd q.1 (by decide))) (by decide) ?_
            refine hr_call (a0 := 14) (b := 87) (e := 1) (nl := 1) (As := []) (R := []) 17 rfl (by decide +kernel) rfl rfl (Nat.le_of_ble_eq_true rfl) (Nat.le_of_ble_eq_true rfl) ?_
            refine hw_mono H ?_
            rintro r ψ93 y93 ⟨hyx, hψx, z93, hr, H⟩
            subst hyx
            subst hψx
            subst hr
            refine ⟨hne0, ?_⟩
            show hw sc (d + 3) 127 127 (jm_st1 (jm_st1 (jm_st1 (jm_st1 [(0, (2, 17)), (1, (2, 5)), (2, (2, 188))] 3 (0, φ 6 3)) 4 (0, φ 6 1)) 5 (0, φ 6 2)) 6 (0, z1)) [(0, z93)] ψ1 y93 Q
            obtain ⟨hz94, ht94, hf94⟩ := H
            refine hw_if (a0 := 0) (b := 1) (e := 134) (by decide +kernel) hz94 (fun q => ?_) (fun q => ?_)
            · have H := ht94 q
              refine hw_ald (b := 0) (e := 0) (by decide +kernel) (get_st1 (get_st1 (get_st1 (get_st1 rfl (by decide) (fun q => absurd q.1 (by decide))) (by decide) (fun q => absurd q.1 (by decide))) (by decide) (fun q => absurd q.1 (by decide))) (by decide) (fun q => absurd q.1 (by decide))) (by decide) ?_
              refine hw_ald (b := 1) (e := 0) (by decide +kernel) (get_st1 (get_st1 (get_st1 (get_st1 rfl (by decide) (fun q => absurd q.1 (by decide))) (by decide) (fun q => absurd q.1 (by decide))) (by decide) (fun q => absurd q.1 (by decide))) (by decide) (fun q => absurd q.1 (by decide))) (by decide) ?_
              refine hr_call (a0 := 14) (b := 91) (e := 2) (nl := 6) (As := [(2, 5)]) (R := []) 17 rfl (by decide +kernel) rfl rfl (Nat.le_of_ble_eq_true rfl) (Nat.le_of_ble_eq_true rfl) ?_
              refine hw_mono H ?_
              rintro r ψ95 y95 ⟨hyx, hr, H⟩
              subst hyx
              subst hr
              refine ⟨hnen, ?_⟩
              show hw sc (d + 3) 127 139 (jm_st1 (jm_st1 (jm_st1 (jm_st1 [(0, (2, 17)), (1, (2, 5)), (2, (2, 188))] 3 (0, φ 6 3)) 4 (0, φ 6 1)) 5 (0, φ 6 2)) 6 (0, z1)) [] ψ95 y95 Q
              exact hw_vret (a0 := 0) (e := 0) (by decide +kernel) H
            · have H := hf94 q
              refine hw_ald (b := 0) (e := 0) (by decide +kernel) (get_st1 (get_st1 (get_st1 (get_st1 rfl (by decide) (fun q => absurd q.1 (by decide))) (by decide) (fun q => absurd q.1 (by decide))) (by decide) (fun q => absurd q.1 (by decide))) (by decide) (fun q => absurd q.1 (by decide))) (by decide) ?_
              refine hr_call (a0 := 14) (b := 88) (e := 1) (nl := 1) (As := []) (R := []) 17 rfl (by decide +kernel) rfl rfl (Nat.le_of_ble_eq_true rfl) (Nat.le_of_ble_eq_true rfl) ?_
              refine hw_mono H ?_
              rintro r ψ97 y97 ⟨hyx, hr, H⟩
              subst hyx
              subst hr
              refine ⟨hnen, ?_⟩
              show hw sc (d + 3) 127 134 (jm_st1 (jm_st1 (jm_st1 (jm_st1 [(0, (2, 17)), (1, (2, 5)), (2, (2, 188))] 3 (0, φ 6 3)) 4 (0, φ 6 1)) 5 (0, φ 6 2)) 6 (0, z1)) [] ψ97 y97 Q
              refine hw_ald (b := 0) (e := 0) (by decide +kernel) (get_st1 (get_st1 (get_st1 (get_st1 rfl (by decide) (fun q => absurd q.1 (by decide))) (by decide) (fun q => absurd q.1 (by decide))) (by decide) (fun q => absurd q.1 (by decide))) (by decide) (fun q => absurd q.1 (by decide))) (by decide) ?_
              refine hw_ald (b := 1) (e := 0) (by decide +kernel) (get_st1 (get_st1 (get_st1 (get_st1 rfl (by decide) (fun q => absurd q.1 (by decide))) (by decide) (fun q => absurd q.1 (by decide))) (by decide) (fun q => absurd q.1 (by decide))) (by decide) (fun q => absurd q.1 (by decide))) (by decide) ?_
              refine hr_call (a0 := 14) (b := 91) (e := 2) (nl := 6) (As := [(2, 5)]) (R := []) 17 rfl (by decide +kernel) rfl rfl (Nat.le_of_ble_eq_true rfl) (Nat.le_of_ble_eq_true rfl) ?_
              refine hw_mono H ?_
              rintro r ψ98 y98 ⟨hyx, hr, H⟩
              subst hyx
              subst hr
              refine ⟨hnen, ?_⟩
              show hw sc (d + 3) 127 139 (jm_st1 (jm_st1 (jm_st1 (jm_st1 [(0, (2, 17)), (1, (2, 5)), (2, (2, 188))] 3 (0, φ 6 3)) 4 (0, φ 6 1)) 5 (0, φ 6 2)) 6 (0, z1)) [] ψ98 y98 Q
              exact hw_vret (a0 := 0) (e := 0) (by decide +kernel) H
        · have H := hf89 q
          refine hw_ld (b := 3) (e := 0) (by decide +kernel) (get_st1 (get_st1 (get_st1 get_st1e (by decide) (fun q => tg0 q.2)) (by decide) (fun q => absurd q.1 (by decide))) (by decide) (fun q => absurd q.1 (by decide))) ?_
          obtain ⟨hz100, ht100, hf100⟩ := H
          refine hw_if (a0 := 0) (b := 5) (e := 117) (by decide +kernel) hz100 (fun q => ?_) (fun q => ?_)
          · have H := ht100 q
            refine hw_ld (b := 6) (e := 1) (by decide +kernel) get_st1e ?_
            refine hw_k (c := 2) (b := 0) (e := 1) (by decide +kernel) ?_
            obtain ⟨hz101, hy101, ht101, hf101⟩ := H
            refine hw_if2 (a0 := 0) (b := 1) (e := 134) (by decide +kernel) hz101 hy101 (fun q => ?_) (fun q => ?_)
            · have H := ht101 q
              refine hw_ald (b := 0) (e := 0) (by decide +kernel) (get_st1 (get_st1 (get_st1 (get_st1 rfl (by decide) (fun q => absurd q.1 (by decide))) (by decide) (fun q => absurd q.1 (by decide))) (by decide) (fun q => absurd q.1 (by decide))) (by decide) (fun q => absurd q.1 (by decide))) (by decide) ?_
              refine hw_ald (b := 1) (e := 0) (by decide +kernel) (get_st1 (get_st1 (get_st1 (get_st1 rfl (by decide) (fun q => absurd q.1 (by decide))) (by decide) (fun q => absurd q.1 (by decide))) (by decide) (fun q => absurd q.1 (by decide))) (by decide) (fun q => absurd q.1 (by decide))) (by decide) ?_
              refine hr_call (a0 := 14) (b := 91) (e := 2) (nl := 6) (As := [(2, 5)]) (R := []) 17 rfl (by decide +kernel) rfl rfl (Nat.le_of_ble_eq_true rfl) (Nat.le_of_ble_eq_true rfl) ?_
              refine hw_mono H ?_
              rintro r ψ102 y102 ⟨hyx, hr, H⟩
              subst hyx
              subst hr
              refine ⟨hnen, ?_⟩
              show hw sc (d + 3) 127 139 (jm_st1 (jm_st1 (jm_st1 (jm_st1 [(0, (2, 17)), (1, (2, 5)), (2, (2, 188))] 3 (0, φ 6 3)) 4 (0, φ 6 1)) 5 (0, φ 6 2)) 6 (0, z1)) [] ψ102 y102 Q
              exact hw_vret (a0 := 0) (e := 0) (by decide +kernel) H
            · have H := hf101 q
              refine hw_ald (b := 0) (e := 0) (by decide +kernel) (get_st1 (get_st1 (get_st1 (get_st1 rfl (by decide) (fun q => absurd q.1 (by decide))) (by decide) (fun q => absurd q.1 (by decide))) (by decide) (fun q => absurd q.1 (by decide))) (by decide) (fun q => absurd q.1 (by decide))) (by decide) ?_
              refine hr_call (a0 := 14) (b := 87) (e := 1) (nl := 1) (As := []) (R := []) 17 rfl (by decide +kernel) rfl rfl (Nat.le_of_ble_eq_true rfl) (Nat.le_of_ble_eq_true rfl) ?_
              refine hw_mono H ?_
              rintro r ψ104 y104 ⟨hyx, hψx, z104, hr, H⟩
              subst hyx
              subst hψx
              subst hr
              refine ⟨hne0, ?_⟩
              show hw sc (d + 3) 127 127 (jm_st1 (jm_st1 (jm_st1 (jm_st1 [(0, (2, 17)), (1, (2, 5)), (2, (2, 188))] 3 (0, φ 6 3)) 4 (0, φ 6 1)) 5 (0, φ 6 2)) 6 (0, z1)) [(0, z104)] ψ1 y104 Q
              obtain ⟨hz105, ht105, hf105⟩ := H
              refine hw_if (a0 := 0) (b := 1) (e := 134) (by decide +kernel) hz105 (fun q => ?_) (fun q => ?_)
              · have H := ht105 q
                refine hw_ald (b := 0) (e := 0) (by decide +kernel) (get_st1 (get_st1 (get_st1 (get_st1 rfl (by decide) (fun q => absurd q.1 (by decide))) (by decide) (fun q => absurd q.1 (by decide))) (by decide) (fun q => absurd q.1 (by decide))) (by decide) (fun q => absurd q.1 (by decide))) (by decide) ?_
                refine hw_ald (b := 1) (e := 0) (by decide +kernel) (get_st1 (get_st1 (get_st1 (get_st1 rfl (by decide) (fun q => absurd q.1 (by decide))) (by decide) (fun q => absurd q.1 (by decide))) (by decide) (fun q => absurd q.1 (by decide))) (by decide) (fun q => absurd q.1 (by decide))) (by decide) ?_
                refine hr_call (a0 := 14) (b := 91) (e := 2) (nl := 6) (As := [(2, 5)]) (R := []) 17 rfl (by decide +kernel) rfl rfl (Nat.le_of_ble_eq_true rfl) (Nat.le_of_ble_eq_true rfl) ?_
                refine hw_mono H ?_
                rintro r ψ106 y106 ⟨hyx, hr, H⟩
                subst hyx
                subst hr
                refine ⟨hnen, ?_⟩
                show hw sc (d + 3) 127 139 (jm_st1 (jm_st1 (jm_st1 (jm_st1 [(0, (2, 17)), (1, (2, 5)), (2, (2, 188))] 3 (0, φ 6 3)) 4 (0, φ 6 1)) 5 (0, φ 6 2)) 6 (0, z1)) [] ψ106 y106 Q
                exact hw_vret (a0 := 0) (e := 0) (by decide +kernel) H
              · have H := hf105 q
                refine hw_ald (b := 0) (e := 0) (by decide +kernel) (get_st1 (get_st1 (get_st1 (get_st1 rfl (by decide) (fun q => absurd q.1 (by decide))) (by decide) (fun q => absurd q.1 (by decide))) (by decide) (fun q => absurd q.1 (by decide))) (by decide) (fun q => absurd q.1 (by decide))) (by decide) ?_
                refine hr_call (a0 := 14) (b := 88) (e := 1) (nl := 1) (As := []) (R := []) 17 rfl (by decide +kernel) rfl rfl (Nat.le_of_ble_eq_true rfl) (Nat.le_of_ble_eq_true rfl) ?_
                refine hw_mono H ?_
                rintro r ψ108 y108 ⟨hyx, hr, H⟩
                subst hyx
                subst hr
                refine ⟨hnen, ?_⟩
                show hw sc (d + 3) 127 134 (jm_st1 (jm_st1 (jm_st1 (jm_st1 [(0, (2, 17)), (1, (2, 5)), (2, (2, 188))] 3 (0, φ 6 3)) 4 (0, φ 6 1)) 5 (0, φ 6 2)) 6 (0, z1)) [] ψ108 y108 Q
                refine hw_ald (b := 0) (e := 0) (by decide +kernel) (get_st1 (get_st1 (get_st1 (get_st1 rfl (by decide) (fun q => absurd q.1 (by decide))) (by decide) (fun q => absurd q.1 (by decide))) (by decide) (fun q => absurd q.1 (by decide))) (by decide) (fun q => absurd q.1 (by decide))) (by decide) ?_
                refine hw_ald (b := 1) (e := 0) (by decide +kernel) (get_st1 (get_st1 (get_st1 (get_st1 rfl (by decide) (fun q => absurd q.1 (by decide))) (by decide) (fun q => absurd q.1 (by decide))) (by decide) (fun q => absurd q.1 (by decide))) (by decide) (fun q => absurd q.1 (by decide))) (by decide) ?_
                refine hr_call (a0 := 14) (b := 91) (e := 2) (nl := 6) (As := [(2, 5)]) (R := []) 17 rfl (by decide +kernel) rfl rfl (Nat.le_of_ble_eq_true rfl) (Nat.le_of_ble_eq_true rfl) ?_
                refine hw_mono H ?_
                rintro r ψ109 y109 ⟨hyx, hr, H⟩
                subst hyx
                subst hr
                refine ⟨hnen, ?_⟩
                show hw sc (d + 3) 127 139 (jm_st1 (jm_st1 (jm_st1 (jm_st1 [(0, (2, 17)), (1, (2, 5)), (2, (2, 188))] 3 (0, φ 6 3)) 4 (0, φ 6 1)) 5 (0, φ 6 2)) 6 (0, z1)) [] ψ109 y109 Q
                exact hw_vret (a0 := 0) (e := 0) (by decide +kernel) H
          · have H := hf100 q
            refine hw_ld (b := 5) (e := 1) (by decide +kernel) (get_st1 get_st1e (by decide) (fun q => tg0 q.2)) ?_
            obtain ⟨hz111, ht111, hf111⟩ := H
            refine hw_if (a0 := 0) (b := 5) (e := 117) (by decide +kernel) hz111 (fun q => ?_) (fun q => ?_)
            · have H := ht111 q
              refine hw_ld (b := 6) (e := 1) (by decide +kernel) get_st1e ?_
              refine hw_k (c := 2) (b := 0) (e := 1) (by decide +kernel) ?_
              obtain ⟨hz112, hy112, ht112, hf112⟩ := H
              refine hw_if2 (a0 := 0) (b := 1) (e := 134) (by decide +kernel) hz112 hy112 (fun q => ?_) (fun q => ?_)
              · have H := ht112 q
                refine hw_ald (b := 0) (e := 0) (by decide +kernel) (get_st1 (get_st1 (get_st1 (get_st1 rfl (by decide) (fun q => absurd q.1 (by decide))) (by decide) (fun q => absurd q.1 (by decide))) (by decide) (fun q => absurd q.1 (by decide))) (by decide) (fun q => absurd q.1 (by decide))) (by decide) ?_
                refine hw_ald (b := 1) (e := 0) (by decide +kernel) (get_st1 (get_st1 (get_st1 (get_st1 rfl (by decide) (fun q => absurd q.1 (by decide))) (by decide) (fun q => absurd q.1 (by decide))) (by decide) (fun q => absurd q.1 (by decide))) (by decide) (fun q => absurd q.1 (by decide))) (by decide) ?_
                refine hr_call (a0 := 14) (b := 91) (e := 2) (nl := 6) (As := [(2, 5)]) (R := []) 17 rfl (by decide +kernel) rfl rfl (Nat.le_of_ble_eq_true rfl) (Nat.le_of_ble_eq_true rfl) ?_
                refine hw_mono H ?_
                rintro r ψ113 y113 ⟨hyx, hr, H⟩
                subst hyx
                subst hr
                refine ⟨hnen, ?_⟩
                show hw sc (d + 3) 127 139 (jm_st1 (jm_st1 (jm_st1 (jm_st1 [(0, (2, 17)), (1, (2, 5)), (2, (2, 188))] 3 (0, φ 6 3)) 4 (0, φ 6 1)) 5 (0, φ 6 2)) 6 (0, z1)) [] ψ113 y113 Q
                exact hw_vret (a0 := 0) (e := 0) (by decide +kernel) H
              · have H := hf112 q
                refine hw_ald (b := 0) (e := 0) (by decide +kernel) (get_st1 (get_st1 (get_st1 (get_st1 rfl (by decide) (fun q => absurd q.1 (by decide))) (by decide) (fun q => absurd q.1 (by decide))) (by decide) (fun q => absurd q.1 (by decide))) (by decide) (fun q => absurd q.1 (by decide))) (by decide) ?_
                refine hr_call (a0 := 14) (b := 87) (e := 1) (nl := 1) (As := []) (R := []) 17 rfl (by decide +kernel) rfl rfl (Nat.le_of_ble_eq_true rfl) (Nat.le_of_ble_eq_true rfl) ?_
                refine hw_mono H ?_
                rintro r ψ115 y115 ⟨hyx, hψx, z115, hr, H⟩
                subst hyx
                subst hψx
                subst hr
                refine ⟨hne0, ?_⟩
                show hw sc (d + 3) 127 127 (jm_st1 (jm_st1 (jm_st1 (jm_st1 [(0, (2, 17)), (1, (2, 5)), (2, (2, 188))] 3 (0, φ 6 3)) 4 (0, φ 6 1)) 5 (0, φ 6 2)) 6 (0, z1)) [(0, z115)] ψ1 y115 Q
                obtain ⟨hz116, ht116, hf116⟩ := H
                refine hw_if (a0 := 0) (b := 1) (e := 134) (by decide +kernel) hz116 (fun q => ?_) (fun q => ?_)
                · have H := ht116 q
                  refine hw_ald (b := 0) (e := 0) (by decide +kernel) (get_st1 (get_st1 (get_st1 (get_st1 rfl (by decide) (fun q => absurd q.1 (by decide))) (by decide) (fun q => absurd q.1 (by decide))) (by decide) (fun q => absurd q.1 (by decide))) (by decide) (fun q => absurd q.1 (by decide))) (by decide) ?_
                  refine hw_ald (b := 1) (e := 0) (by decide +kernel) (get_st1 (get_st1 (get_st1 (get_st1 rfl (by decide) (fun q => absurd q.1 (by decide))) (by decide) (fun q => absurd q.1 (by decide))) (by decide) (fun q => absurd q.1 (by decide))) (by decide) (fun q => absurd q.1 (by decide))) (by decide) ?_
                  refine hr_call (a0 := 14) (b := 91) (e := 2) (nl := 6) (As := [(2, 5)]) (R := []) 17 rfl (by decide +kernel) rfl rfl (Nat.le_of_ble_eq_true rfl) (Nat.le_of_ble_eq_true rfl) ?_
                  refine hw_mono H ?_
                  rintro r ψ117 y117 ⟨hyx, hr, H⟩
                  subst hyx
                  subst hr
                  refine ⟨hnen, ?_⟩
                  show hw sc (d + 3) 127 139 (jm_st1 (jm_st1 (jm_st1 (jm_st1 [(0, (2, 17)), (1, (2, 5)), (2, (2, 188))] 3 (0, φ 6 3)) 4 (0, φ 6 1)) 5 (0, φ 6 2)) 6 (0, z1)) [] ψ117 y117 Q
                  exact hw_vret (a0 := 0) (e := 0) (by decide +kernel) H
                · have H := hf116 q
                  refine hw_ald (b := 0) (e := 0) (by decide +kernel) (get_st1 (get_st1 (get_st1 (get_st1 rfl (by decide) (fun q => absurd q.1 (by decide))) (by decide) (fun q => absurd q.1 (by decide))) (by decide) (fun q => absurd q.1 (by decide))) (by decide) (fun q => absurd q.1 (by decide))) (by decide) ?_
                  refine hr_call (a0 := 14) (b := 88) (e := 1) (nl := 1) (As := []) (R := []) 17 rfl (by decide +kernel) rfl rfl (Nat.le_of_ble_eq_true rfl) (Nat.le_of_ble_eq_true rfl) ?_
                  refine hw_mono H ?_
                  rintro r ψ119 y119 ⟨hyx, hr, H⟩
                  subst hyx
                  subst hr
                  refine ⟨hnen, ?_⟩
                  show hw sc (d + 3) 127 134 (jm_st1 (jm_st1 (jm_st1 (jm_st1 [(0, (2, 17)), (1, (2, 5)), (2, (2, 188))] 3 (0, φ 6 3)) 4 (0, φ 6 1)) 5 (0, φ 6 2)) 6 (0, z1)) [] ψ119 y119 Q
                  refine hw_ald (b := 0) (e := 0) (by decide +kernel) (get_st1 (get_st1 (get_st1 (get_st1 rfl (by decide) (fun q => absurd q.1 (by decide))) (by decide) (fun q => absurd q.1 (by decide))) (by decide) (fun q => absurd q.1 (by decide))) (by decide) (fun q => absurd q.1 (by decide))) (by decide) ?_
                  refine hw_ald (b := 1) (e := 0) (by decide +kernel) (get_st1 (get_st1 (get_st1 (get_st1 rfl (by decide) (fun q => absurd q.1 (by decide))) (by decide) (fun q => absurd q.1 (by decide))) (by decide) (fun q => absurd q.1 (by decide))) (by decide) (fun q => absurd q.1 (by decide))) (by decide) ?_
                  refine hr_call (a0 := 14) (b := 91) (e := 2) (nl := 6) (As := [(2, 5)]) (R := []) 17 rfl (by decide +kernel) rfl rfl (Nat.le_of_ble_eq_true rfl) (Nat.le_of_ble_eq_true rfl) ?_
                  refine hw_mono H ?_
                  rintro r ψ120 y120 ⟨hyx, hr, H⟩
                  subst hyx
                  subst hr
                  refine ⟨hnen, ?_⟩
                  show hw sc (d + 3) 127 139 (jm_st1 (jm_st1 (jm_st1 (jm_st1 [(0, (2, 17)), (1, (2, 5)), (2, (2, 188))] 3 (0, φ 6 3)) 4 (0, φ 6 1)) 5 (0, φ 6 2)) 6 (0, z1)) [] ψ120 y120 Q
                  exact hw_vret (a0 := 0) (e := 0) (by decide +kernel) H
            · have H := hf111 q
              refine hw_ald (b := 2) (e := 0) (by decide +kernel) (get_st1 (get_st1 (get_st1 (get_st1 rfl (by decide) (fun q => tg2 q.2)) (by decide) (fun q => absurd q.1 (by decide))) (by decide) (fun q => absurd q.1 (by decide))) (by decide) (fun q => absurd q.1 (by decide))) (by decide) ?_
              refine hw_ld (b := 3) (e := 0) (by decide +kernel) (get_st1 (get_st1 (get_st1 get_st1e (by decide) (fun q => tg0 q.2)) (by decide) (fun q => absurd q.1 (by decide))) (by decide) (fun q => absurd q.1 (by decide))) ?_
              refine hr_call (a0 := 20) (b := 128) (e := 2) (nl := 2) (As := [(0, φ 6 3)]) (R := []) 188 rfl (by decide +kernel) rfl rfl (Nat.le_of_ble_eq_true rfl) (Nat.le_of_ble_eq_true rfl) ?_
              refine hw_mono H ?_
              rintro r ψ122 y122 ⟨hyx, z122, hr, H⟩
              subst hyx
              subst hr
              refine ⟨hne0, ?_⟩
              show hw sc (d + 3) 127 87 (jm_st1 (jm_st1 (jm_st1 (jm_st1 [(0, (2, 17)), (1, (2, 5)), (2, (2, 188))] 3 (0, φ 6 3)) 4 (0, φ 6 1)) 5 (0, φ 6 2)) 6 (0, z1)) [(0, z122)] ψ122 y122 Q
              refine hw_st (L' := (jm_st1 (jm_st1 (jm_st1 (jm_st1 (jm_st1 [(0, (2, 17)), (1, (2, 5)), (2, (2, 188))] 3 (0, φ 6 3)) 4 (0, φ 6 1)) 5 (0, φ 6 2)) 6 (0, z1)) 7 (0, z122))) (b := 7) (e := 1) (by decide +kernel) rfl ?_
              refine hw_ald (b := 2) (e := 0) (by decide +kernel) (get_st1 (get_st1 (get_st1 (get_st1 (get_st1 rfl (by decide) (fun q => tg2 q.2)) (by decide) (fun q => absurd q.1 (by decide))) (by decide) (fun q => absurd q.1 (by decide))) (by decide) (fun q => absurd q.1 (by decide))) (by decide) (fun q => absurd q.1 (by decide))) (by decide) ?_
              refine hw_ld (b := 5) (e := 1) (by decide +kernel) (get_st1 (get_st1 get_st1e (by decide) (fun q => tg0 q.2)) (by decide) (fun q => absurd q.1 (by decide))) ?_
              refine hr_call (a0 := 20) (b := 128) (e := 2) (nl := 2) (As := [(0, φ 6 2)]) (R := []) 188 rfl (by decide +kernel) rfl rfl (Nat.le_of_ble_eq_true rfl) (Nat.le_of_ble_eq_true rfl) ?_
              refine hw_mono H ?_
              rintro r ψ123 y123 ⟨hyx, z123, hr, H⟩
              subst hyx
              subst hr
              refine ⟨hne0, ?_⟩
              show hw sc (d + 3) 127 95 (jm_st1 (jm_st1 (jm_st1 (jm_st1 (jm_st1 [(0, (2, 17)), (1, (2, 5)), (2, (2, 188))] 3 (0, φ 6 3)) 4 (0, φ 6 1)) 5 (0, φ 6 2)) 6 (0, z1)) 7 (0, z122)) [(0, z123)] ψ123 y123 Q
              refine hw_st (L' := (jm_st1 (jm_st1 (jm_st1 (jm_st1 (jm_st1 (jm_st1 [(0, (2, 17)), (1, (2, 5)), (2, (2, 188))] 3 (0, φ 6 3)) 4 (0, φ 6 1)) 5 (0, φ 6 2)) 6 (0, z1)) 7 (0, z122)) 8 (0, z123))) (b := 8) (e := 1) (by decide +kernel) rfl ?_
              refine hw_ald (b := 0) (e := 0) (by decide +kernel) (get_st1 (get_st1 (get_st1 (get_st1 (get_st1 (get_st1 rfl (by decide) (fun q => absurd q.1 (by decide))) (by decide) (fun q => absurd q.1 (by decide))) (by decide) (fun q => absurd q.1 (by decide))) (by decide) (fun q => absurd q.1 (by decide))) (by decide) (fun q => absurd q.1 (by decide))) (by decide) (fun q => absurd q.1 (by decide))) (by decide) ?_
              refine hw_ld (b := 7) (e := 1) (by decide +kernel) (get_st1 get_st1e (by decide) (fun q => tg0 q.2)) ?_
              refine hr_call (a0 := 14) (b := 54) (e := 2) (nl := 2) (As := [(0, z122)]) (R := []) 17 rfl (by decide +kernel) rfl rfl (Nat.le_of_ble_eq_true rfl) (Nat.le_of_ble_eq_true rfl) ?_
              refine hw_mono H ?_
              rintro r ψ124 y124 ⟨hyx, hψx, z124, hr, H⟩
              subst hyx
              subst hψx
              subst hr
              refine ⟨hne0, ?_⟩
              show hw sc (d + 3) 127 103 (jm_st1 (jm_st1 (jm_st1 (jm_st1 (jm_st1 (jm_st1 [(0, (2, 17)), (1, (2, 5)), (2, (2, 188))] 3 (0, φ 6 3)) 4 (0, φ 6 1)) 5 (0, φ 6 2)) 6 (0, z1)) 7 (0, z122)) 8 (0, z123)) [(0, z124)] ψ123 y124 Q
              obtain ⟨hz125, ht125, hf125⟩ := H
              refine hw_if (a0 := 0) (b := 1) (e := 114) (by decide +kernel) hz125 (fun q => ?_) (fun q => ?_)
              · have H := ht125 q
                refine hw_goto (a0 := 0) (b := 0) (e := 134) (by decide +kernel) ?_
                refine hw_ald (b := 0) (e := 0) (by decide +kernel) (get_st1 (get_st1 (get_st1 (get_st1 (get_st1 (get_st1 rfl (by decide) (fun q => absurd q.1 (by decide))) (by decide) (fun q => absurd q.1 (by decide))) (by decide) (fun q => absurd q.1 (by decide))) (by decide) (fun q => absurd q.1 (by decide))) (by decide) (fun q => absurd q.1 (by decide))) (by decide) (fun q => absurd q.1 (by decide))) (by decide) ?_
                refine hw_ald (b := 1) (e := 0) (by decide +kernel) (get_st1 (get_st1 (get_st1 (get_st1 (get_st1 (get_st1 rfl (by decide) (fun q => absurd q.1 (by decide))) (by decide) (fun q => absurd q.1 (by decide))) (by decide) (fun q => absurd q.1 (by decide))) (by decide) (fun q => absurd q.1 (by decide))) (by decide) (fun q => absurd q.1 (by decide))) (by decide) (fun q => absurd q.1 (by decide))) (by decide) ?_
                refine hr_call (a0 := 14) (b := 91) (e := 2) (nl := 6) (As := [(2, 5)]) (R := []) 17 rfl (by decide +kernel) rfl rfl (Nat.le_of_ble_eq_true rfl) (Nat.le_of_ble_eq_true rfl) ?_
                refine hw_mono H ?_
                rintro r ψ126 y126 ⟨hyx, hr, H⟩
                subst hyx
                subst hr
                refine ⟨hnen, ?_⟩
                show hw sc (d + 3) 127 139 (jm_st1 (jm_st1 (jm_st1 (jm_st1 (jm_st1 (jm_st1 [(0, (2, 17)), (1, (2, 5)), (2, (2, 188))] 3 (0, φ 6 3)) 4 (0, φ 6 1)) 5 (0, φ 6 2)) 6 (0, z1)) 7 (0, z122)) 8 (0, z123)) [] ψ126 y126 Q
                exact hw_vret (a0 := 0) (e := 0) (by decide +kernel) H
              · have H := hf125 q
                refine hw_ald (b := 0) (e := 0) (by decide +kernel) (get_st1 (get_st1 (get_st1 (get_st1 (get_st1 (get_st1 rfl (by decide) (fun q => absurd q.1 (by decide))) (by decide) (fun q => absurd q.1 (by decide))) (by decide) (fun q => absurd q.1 (by decide))) (by decide) (fun q => absurd q.1 (by decide))) (by decide) (fun q => absurd q.1 (by decide))) (by decide) (fun q => absurd q.1 (by decide))) (by decide) ?_
                refine hw_ld (b := 7) (e := 1) (by decide +kernel) (get_st1 get_st1e (by decide) (fun q => tg0 q.2)) ?_
                refine hw_ld (b := 8) (e := 1) (by decide +kernel) get_st1e ?_
                refine hr_call (a0 := 14) (b := 55) (e := 3) (nl := 3) (As := [(0, z122), (0, z123)]) (R := []) 17 rfl (by decide +kernel) rfl rfl (Nat.le_of_ble_eq_true rfl) (Nat.le_of_ble_eq_true rfl) ?_
                refine hw_mono H ?_
                rintro r ψ128 y128 ⟨hyx, hr, H⟩
                subst hyx
                subst hr
                refine ⟨hnen, ?_⟩
                show hw sc (d + 3) 127 114 (jm_st1 (jm_st1 (jm_st1 (jm_st1 (jm_st1 (jm_st1 [(0, (2, 17)), (1, (2, 5)), (2, (2, 188))] 3 (0, φ 6 3)) 4 (0, φ 6 1)) 5 (0, φ 6 2)) 6 (0, z1)) 7 (0, z122)) 8 (0, z123)) [] ψ128 y128 Q
                refine hw_goto (a0 := 0) (b := 0) (e := 134) (by decide +kernel) ?_
                refine hw_ald (b := 0) (e := 0) (by decide +kernel) (get_st1 (get_st1 (get_st1 (get_st1 (get_st1 (get_st1 rfl (by decide) (fun q => absurd q.1 (by decide))) (by decide) (fun q => absurd q.1 (by decide))) (by decide) (fun q => absurd q.1 (by decide))) (by decide) (fun q => absurd q.1 (by decide))) (by decide) (fun q => absurd q.1 (by decide))) (by decide) (fun q => absurd q.1 (by decide))) (by decide) ?_
                refine hw_ald (b := 1) (e := 0) (by decide +kernel) (get_st1 (get_st1 (get_st1 (get_st1 (get_st1 (get_st1 rfl (by decide) (fun q => absurd q.1 (by decide))) (by decide) (fun q => absurd q.1 (by decide))) (by decide) (fun q => absurd q.1 (by decide))) (by decide) (fun q => absurd q.1 (by decide))) (by decide) (fun q => absurd q.1 (by decide))) (by decide) (fun q => absurd q.1 (by decide))) (by decide) ?_
                refine hr_call (a0 := 14) (b := 91) (e := 2) (nl := 6) (As := [(2, 5)]) (R := []) 17 rfl (by decide +kernel) rfl rfl (Nat.le_of_ble_eq_true rfl) (Nat.le_of_ble_eq_true rfl) ?_
                refine hw_mono H ?_
                rintro r ψ129 y129 ⟨hyx, hr, H⟩
                subst hyx
                subst hr
                refine ⟨hnen, ?_⟩
                show hw sc (d + 3) 127 139 (jm_st1 (jm_st1 (jm_st1 (jm_st1 (jm_st1 (jm_st1 [(0, (2, 17)), (1, (2, 5)), (2, (2, 188))] 3 (0, φ 6 3)) 4 (0, φ 6 1)) 5 (0, φ 6 2)) 6 (0, z1)) 7 (0, z122)) 8 (0, z123)) [] ψ129 y129 Q
                exact hw_vret (a0 := 0) (e := 0) (by decide +kernel) H
      · have H := hf88 q
        refine hw_ald (b := 2) (e := 0) (by decide +kernel) (get_st1 (get_st1 (get_st1 (get_st1 rfl (by decide) (fun q => tg2 q.2)) (by decide) (fun q => absurd q.1 (by decide))) (by decide) (fun q => absurd q.1 (by decide))) (by decide) (fun q => absurd q.1 (by decide))) (by decide) ?_
        refine hw_ld (b := 3) (e := 0) (by decide +kernel) (get_st1 (get_st1 (get_st1 get_st1e (by decide) (fun q => tg0 q.2)) (by decide) (fun q => absurd q.1 (by decide))) (by decide) (fun q => absurd q.1 (by decide))) ?_
        refine hr_call (a0 := 20) (b := 128) (e := 2) (nl := 2) (As := [(0, φ 6 3)]) (R := []) 188 rfl (by decide +kernel) rfl rfl (Nat.le_of_ble_eq_true rfl) (Nat.le_of_ble_eq_true rfl) ?_
        refine hw_mono H ?_
        rintro r ψ131 y131 ⟨hyx, z131, hr, H⟩
        subst hyx
        subst hr
        refine ⟨hne0, ?_⟩
        show hw sc (d + 3) 127 50 (jm_st1 (jm_st1 (jm_st1 (jm_st1 [(0, (2, 17)), (1, (2, 5)), (2, (2, 188))] 3 (0, φ 6 3)) 4 (0, φ 6 1)) 5 (0, φ 6 2)) 6 (0, z1)) [(0, z131)] ψ131 y131 Q
        refine hw_st (L' := (jm_st1 (jm_st1 (jm_st1 (jm_st1 (jm_st1 [(0, (2, 17)), (1, (2, 5)), (2, (2, 188))] 3 (0, φ 6 3)) 4 (0, φ 6 1)) 5 (0, φ 6 2)) 6 (0, z1)) 7 (0, z131))) (b := 7) (e := 1) (by decide +kernel) rfl ?_
        refine hw_ald (b := 0) (e := 0) (by decide +kernel) (get_st1 (get_st1 (get_st1 (get_st1 (get_st1 rfl (by decide) (fun q => absurd q.1 (by decide))) (by decide) (fun q => absurd q.1 (by decide))) (by decide) (fun q => absurd q.1 (by decide))) (by decide) (fun q => absurd q.1 (by decide))) (by decide) (fun q => absurd q.1 (by decide))) (by decide) ?_
        refine hw_ld (b := 7) (e := 1) (by decide +kernel) get_st1e ?_
        refine hw_ald (b := 2) (e := 0) (by decide +kernel) (get_st1 (get_st1 (get_st1 (get_st1 (get_st1 rfl (by decide) (fun q => tg2 q.2)) (by decide) (fun q => absurd q.1 (by decide))) (by decide) (fun q => absurd q.1 (by decide))) (by decide) (fun q => absurd q.1 (by decide))) (by decide) (fun q => absurd q.1 (by decide))) (by decide) ?_
        refine hw_ld (b := 4) (e := 1) (by decide +kernel) (get_st1 (get_st1 (get_st1 get_st1e (by decide) (fun q => tg0 q.2)) (by decide) (fun q => absurd q.1 (by decide))) (by decide) (fun q => absurd q.1 (by decide))) ?_
        refine hr_call (a0 := 20) (b := 128) (e := 2) (nl := 2) (As := [(0, φ 6 1)]) (R := [(0, z131), (2, 17)]) 188 rfl (by decide +kernel) rfl rfl (Nat.le_of_ble_eq_true rfl) (Nat.le_of_ble_eq_true rfl) ?_
        refine hw_mono H ?_
        rintro r ψ132 y132 ⟨hyx, z132, hr, H⟩
        subst hyx
        subst hr
        refine ⟨hne0, ?_⟩
        show hw sc (d + 3) 127 61 (jm_st1 (jm_st1 (jm_st1 (jm_st1 (jm_st1 [(0, (2, 17)), (1, (2, 5)), (2, (2, 188))] 3 (0, φ 6 3)) 4 (0, φ 6 1)) 5 (0, φ 6 2)) 6 (0, z1)) 7 (0, z131)) [(0, z132), (0, z131), (2, 17)] ψ132 y132 Q
        refine hr_call (a0 := 14) (b := 129) (e := 3) (nl := 3) (As := [(0, z131), (0, z132)]) (R := []) 17 rfl (by decide +kernel) rfl rfl (Nat.le_of_ble_eq_true rfl) (Nat.le_of_ble_eq_true rfl) ?_
        refine hw_mono H ?_
        rintro r ψ133 y133 ⟨hyx, hr, H⟩
        subst hyx
        subst hr
        refine ⟨hnen, ?_⟩
        show hw sc (d + 3) 127 64 (jm_st1 (jm_st1 (jm_st1 (jm_st1 (jm_st1 [(0, (2, 17)), (1, (2, 5)), (2, (2, 188))] 3 (0, φ 6 3)) 4 (0, φ 6 1)) 5 (0, φ 6 2)) 6 (0, z1)) 7 (0, z131)) [] ψ133 y133 Q
        refine hw_goto (a0 := 0) (b := 0) (e := 134) (by decide +kernel) ?_
        refine hw_ald (b := 0) (e := 0) (by decide +kernel) (get_st1 (get_st1 (get_st1 (get_st1 (get_st1 rfl (by decide) (fun q => absurd q.1 (by decide))) (by decide) (fun q => absurd q.1 (by decide))) (by decide) (fun q => absurd q.1 (by decide))) (by decide) (fun q => absurd q.1 (by decide))) (by decide) (fun q => absurd q.1 (by decide))) (by decide) ?_
        refine hw_ald (b := 1) (e := 0) (by decide +kernel) (get_st1 (get_st1 (get_st1 (get_st1 (get_st1 rfl (by decide) (fun q => absurd q.1 (by decide))) (by decide) (fun q => absurd q.1 (by decide))) (by decide) (fun q => absurd q.1 (by decide))) (by decide) (fun q => absurd q.1 (by decide))) (by decide) (fun q => absurd q.1 (by decide))) (by decide) ?_
        refine hr_call (a0 := 14) (b := 91) (e := 2) (nl := 6) (As := [(2, 5)]) (R := []) 17 rfl (by decide +kernel) rfl rfl (Nat.le_of_ble_eq_true rfl) (Nat.le_of_ble_eq_true rfl) ?_
        refine hw_mono H ?_
        rintro r ψ134 y134 ⟨hyx, hr, H⟩
        subst hyx
        subst hr
        refine ⟨hnen, ?_⟩
        show hw sc (d + 3) 127 139 (jm_st1 (jm_st1 (jm_st1 (jm_st1 (jm_st1 [(0, (2, 17)), (1, (2, 5)), (2, (2, 188))] 3 (0, φ 6 3)) 4 (0, φ 6 1)) 5 (0, φ 6 2)) 6 (0, z1)) 7 (0, z131)) [] ψ134 y134 Q
        exact hw_vret (a0 := 0) (e := 0) (by decide +kernel) H
theorem sf_127_17_5_188 {sc : List Int} {d : Nat} {φ : hf_F} {x : Nat} {Q : Option jm_V → hf_F → Nat → Prop}  (hI : Inv φ)  (hQ : ∀ ψ : hf_F, Inv ψ → Fr [18, 19, 20, 21, 22, 23, 24, 25, 18000, 18001, 18002, 18003, 18004, 18005, 189000] φ ψ → F_State_turnDrawn_17_5_188 φ = ψ → Q none ψ x) : hw sc (d + 3) 127 0 [(0, (2, 17)), (1, (2, 5)), (2, (2, 188))] [] φ x Q := by
  apply sf_127_17_5_188_v
  have e0 : F_State_turnDrawn_17_5_188 φ = _ := rfl
  have f1 := iv_at (a := 6) (k := 3) (lo := 0) (u := 6) hI (by decide +kernel)
  have f2 := iv_at (a := 6) (k := 1) (lo := 0) (u := 8) hI (by decide +kernel)
  have f3 := iv_at (a := 6) (k := 2) (lo := 0) (u := 8) hI (by decide +kernel)
  refine sf_128_188 (φ := φ) hI (by omega) (by omega) (fun z1 ψ1 hI1 hF1 hp1 hE1 => ⟨rfl, z1, rfl, ?_⟩)
  have hG1 : Fr [18, 19, 20, 21, 22, 23, 24, 25, 18000, 18001, 18002, 18003, 18004, 18005, 189000] φ ψ1 := fr_tr (fr_rf) hF1 (by decide)
  have e1 := e0.trans (bnd_e hE1)
  refine ⟨by unfold hi; omega, fun q2 => ?_, fun q2 => ?_⟩
  · skip
    have e2a := e1.trans (if_pos q2)
    refine ⟨by unfold hi; omega, by unfold hi; omega, fun q3 => ?_, fun q3 => ?_⟩
    · skip
      have e3a := e2a.trans (if_pos q3)
      refine ⟨by unfold hi; omega, by unfold hi; omega, fun q4 => ?_, fun q4 => ?_⟩
      · skip
        have e4a := e3a.trans (if_pos q4)
        refine sf_91_17_5 (φ := ψ1) hI1  (fun ψ5 hI5 hF5 hE5 => ⟨rfl, rfl, ?_⟩)
        have hG5 : Fr [18, 19, 20, 21, 22, 23, 24, 25, 18000, 18001, 18002, 18003, 18004, 18005, 189000] φ ψ5 := fr_tr hG1 hF5 (by decide)
        have e5 := e4a.trans (bnv_e hE5)
        exact hQ ψ5 hI5 hG5 e5
      · skip
        have e4b := e3a.trans (if_neg q4)
        refine sf_87_17 (φ := ψ1) hI1  (fun z7 hp7 hE7 => ⟨rfl, rfl, z7, rfl, ?_⟩)
        have e7 := e4b.trans (bnp_e hE7)
        refine ⟨by unfold hi; omega, fun q8 => ?_, fun q8 => ?_⟩
        · skip
          have e8a := e7.trans (if_pos q8)
          refine sf_91_17_5 (φ := ψ1) hI1  (fun ψ9 hI9 hF9 hE9 => ⟨rfl, rfl, ?_⟩)
          have hG9 : Fr [18, 19, 20, 21, 22, 23, 24, 25, 18000, 18001, 18002, 18003, 18004, 18005, 189000] φ ψ9 := fr_tr hG1 hF9 (by decide)
          have e9 := e8a.trans (bnv_e hE9)
          exact hQ ψ9 hI9 hG9 e9
        · skip
          have e8b := e7.trans (if_neg q8)
          refine sf_88_17 (φ := ψ1) hI1  (fun ψ11 hI11 hF11 hE11 => ⟨rfl, rfl, ?_⟩)
          have hG11 : Fr [18, 19, 20, 21, 22, 23, 24, 25, 18000, 18001, 18002, 18003, 18004, 18005, 189000] φ ψ11 := fr_tr hG1 hF11 (by decide)
          have e11 := e8b.trans (bnv_e hE11)
          refine sf_91_17_5 (φ := ψ11) hI11  (fun ψ12 hI12 hF12 hE12 => ⟨rfl, rfl, ?_⟩)
          have hG12 : Fr [18, 19, 20, 21, 22, 23, 24, 25, 18000, 18001, 18002, 18003, 18004, 18005, 189000] φ ψ12 := fr_tr hG11 hF12 (by decide)
          have e12 := e11.trans (bnv_e hE12)
          exact hQ ψ12 hI12 hG12 e12
    · skip
      have e3b := e2a.trans (if_neg q3)
      refine ⟨by unfold hi; omega, fun q14 => ?_, fun q14 => ?_⟩
      · skip
        have e14a := e3b.trans (if_pos q14)
        refine ⟨by unfold hi; omega, by unfold hi; omega, fun q15 => ?_, fun q15 => ?_⟩
        · skip
          have e15a := e14a.trans (if_pos q15)
          refine sf_91_17_5 (φ := ψ1) hI1  (fun ψ16 hI16 hF16 hE16 => ⟨rfl, rfl, ?_⟩)
          have hG16 : Fr [18, 19, 20, 21, 22, 23, 24, 25, 18000, 18001, 18002, 18003, 18004, 18005, 189000] φ ψ16 := fr_tr hG1 hF16 (by decide)
          have e16 := e15a.trans (bnv_e hE16)
          exact hQ ψ16 hI16 hG16 e16
        · skip
          have e15b := e14a.trans (if_neg q15)
          refine sf_87_17 (φ := ψ1) hI1  (fun z18 hp18 hE18 => ⟨rfl, rfl, z18, rfl, ?_⟩)
          have e18 := e15b.trans (bnp_e hE18)
          refine ⟨by unfold hi; omega, fun q19 => ?_, fun q19 => ?_⟩
          · skip
            have e19a := e18.trans (if_pos q19)
            refine sf_91_17_5 (φ := ψ1) hI1  (fun ψ20 hI20 hF20 hE20 => ⟨rfl, rfl, ?_⟩)
            have hG20 : Fr [18, 19, 20, 21, 22, 23, 24, 25, 18000, 18001, 18002, 18003, 18004, 18005, 189000] φ ψ20 := fr_tr hG1 hF20 (by decide)
            have e20 := e19a.trans (bnv_e hE20)
            exact hQ ψ20 hI20 hG20 e20
          · skip
            have e19b := e18.trans (if_neg q19)
            refine sf_88_17 (φ := ψ1) hI1  (fun ψ22 hI22 hF22 hE22 => ⟨rfl, rfl, ?_⟩)
            have hG22 : Fr [18, 19, 20, 21, 22, 23, 24, 25, 18000, 18001, 18002, 18003, 18004, 18005, 189000] φ ψ22 := fr_tr hG1 hF22 (by decide)
            have e22 := e19b.trans (bnv_e hE22)
            refine sf_91_17_5 (φ := ψ22) hI22  (fun ψ23 hI23 hF23 hE23 => ⟨rfl, rfl, ?_⟩)
            have hG23 : Fr [18, 19, 20, 21, 22, 23, 24, 25, 18000, 18001, 18002, 18003, 18004, 18005, 189000] φ ψ23 := fr_tr hG22 hF23 (by decide)
            have e23 := e22.trans (bnv_e hE23)
            exact hQ ψ23 hI23 hG23 e23
      · skip
        have e14b := e3b.trans (if_neg q14)
        refine ⟨by unfold hi; omega, fun q25 => ?_, fun q25 => ?_⟩
        · skip
          have e25a := e14b.trans (if_pos q25)
          refine ⟨by unfold hi; omega, by unfold hi; omega, fun q26 => ?_, fun q26 => ?_⟩
          · skip
            have e26a := e25a.trans (if_pos q26)
            refine sf_91_17_5 (φ := ψ1) hI1  (fun ψ27 hI27 hF27 hE27 => ⟨rfl, rfl, ?_⟩)
            have hG27 : Fr [18, 19, 20, 21, 22, 23, 24, 25, 18000, 18001, 18002, 18003, 18004, 18005, 189000] φ ψ27 := fr_tr hG1 hF27 (by decide)
            have e27 := e26a.trans (bnv_e hE27)
            exact hQ ψ27 hI27 hG27 e27
          · skip
            have e26b := e25a.trans (if_neg q26)
            refine sf_87_17 (φ := ψ1) hI1  (fun z29 hp29 hE29 => ⟨rfl, rfl, z29, rfl, ?_⟩)
            have e29 := e26b.trans (bnp_e hE29)
            refine ⟨by unfold hi; omega, fun q30 => ?_, fun q30 => ?_⟩
            · skip
              have e30a := e29.trans (if_pos q30)
              refine sf_91_17_5 (φ := ψ1) hI1  (fun ψ31 hI31 hF31 hE31 => ⟨rfl, rfl, ?_⟩)
              have hG31 : Fr [18, 19, 20, 21, 22, 23, 24, 25, 18000, 18001, 18002, 18003, 18004, 18005, 189000] φ ψ31 := fr_tr hG1 hF31 (by decide)
              have e31 := e30a.trans (bnv_e hE31)
              exact hQ ψ31 hI31 hG31 e31
            · skip
              have e30b := e29.trans (if_neg q30)
              refine sf_88_17 (φ := ψ1) hI1  (fun ψ33 hI33 hF33 hE33 => ⟨rfl, rfl, ?_⟩)
              have hG33 : Fr [18, 19, 20, 21, 22, 23, 24, 25, 18000, 18001, 18002, 18003, 18004, 18005, 189000] φ ψ33 := fr_tr hG1 hF33 (by decide)
              have e33 := e30b.trans (bnv_e hE33)
              refine sf_91_17_5 (φ := ψ33) hI33  (fun ψ34 hI34 hF34 hE34 => ⟨rfl, rfl, ?_⟩)
              have hG34 : Fr [18, 19, 20, 21, 22, 23, 24, 25, 18000, 18001, 18002, 18003, 18004, 18005, 189000] φ ψ34 := fr_tr hG33 hF34 (by decide)
              have e34 := e33.trans (bnv_e hE34)
              exact hQ ψ34 hI34 hG34 e34
        · skip
          have e25b := e14b.trans (if_neg q25)
          refine sf_128_188 (φ := ψ1) hI1 (by omega) (by omega) (fun z36 ψ36 hI36 hF36 hp36 hE36 => ⟨rfl, z36, rfl, ?_⟩)
          have hG36 : Fr [18, 19, 20, 21, 22, 23, 24, 25, 18000, 18001, 18002, 18003, 18004, 18005, 189000] φ ψ36 := fr_tr hG1 hF36 (by decide)
          have e36 := e25b.trans (bnd_e hE36)
          refine sf_128_188 (φ := ψ36) hI36 (by omega) (by omega) (fun z37 ψ37 hI37 hF37 hp37 hE37 => ⟨rfl, z37, rfl, ?_⟩)
          have hG37 : Fr [18, 19, 20, 21, 22, 23, 24, 25, 18000, 18001, 18002, 18003, 18004, 18005, 189000] φ ψ37 := fr_tr hG36 hF37 (by decide)
          have e37 := e36.trans (bnd_e hE37)
          refine sf_54_17 (φ := ψ37) hI37 (by omega) (by omega) (fun z38 hp38 hE38 => ⟨rfl, rfl, z38, rfl, ?_⟩)
          have e38 := e37.trans (bnp_e hE38)
          have f4 := iv_ar (a := 21) (s := 0) (t := 6) (lo := 0) (u := 6) (z := z36) hI37 (by decide +kernel) (by omega) (by omega)
          have f5 : ψ37 21 ((z36).toNat) = ψ36 21 ((z36).toNat) := (fr_at hF37 21 (by decide) ((z36).toNat))
          have f6 := iv_ar (a := 21) (s := 0) (t := 6) (lo := 0) (u := 6) (z := z36) hI36 (by decide +kernel) (by omega) (by omega)
          have f7 : ψ36 21 ((z36).toNat) = ψ1 21 ((z36).toNat) := (fr_at hF36 21 (by decide) ((z36).toNat))
          have f8 := iv_ar (a := 21) (s := 0) (t := 6) (lo := 0) (u := 6) (z := z36) hI1 (by decide +kernel) (by omega) (by omega)
          have f9 : ψ1 21 ((z36).toNat) = φ 21 ((z36).toNat) := (fr_at hF1 21 (by decide) ((z36).toNat))
          have f10 := iv_ar (a := 21) (s := 0) (t := 6) (lo := 0) (u := 6) (z := z36) hI (by decide +kernel) (by omega) (by omega)
          refine ⟨by unfold hi; omega, fun q39 => ?_, fun q39 => ?_⟩
          · skip
            have e39a := e38.trans (if_pos q39)
            refine sf_91_17_5 (φ := ψ37) hI37  (fun ψ40 hI40 hF40 hE40 => ⟨rfl, rfl, ?_⟩)
            have hG40 : Fr [18, 19, 20, 21, 22, 23, 24, 25, 18000, 18001, 18002, 18003, 18004, 18005, 189000] φ ψ40 := fr_tr hG37 hF40 (by decide)
            have e40 := e39a.trans (bnv_e hE40)
            exact hQ ψ40 hI40 hG40 e40
          · skip
            have e39b := e38.trans (if_neg q39)
            refine sf_55_17 (φ := ψ37) hI37 (by omega) (by omega) (by omega) (by omega) (by rw [show ψ37 21 ((z36).toNat) = ψ37 21 ((z36).toNat) from rfl]; constructor <;> omega) (fun ψ42 hI42 hF42 hE42 => ⟨rfl, rfl, ?_⟩)
            have hG42 : Fr [18, 19, 20, 21, 22, 23, 24, 25, 18000, 18001, 18002, 18003, 18004, 18005, 189000] φ ψ42 := fr_tr hG37 hF42 (by decide)
            have e42 := e39b.trans (bnv_e hE42)
            refine sf_91_17_5 (φ := ψ42) hI42  (fun ψ43 hI43 hF43 hE43 => ⟨rfl, rfl, ?_⟩)
            have hG43 : Fr [18, 19, 20, 21, 22, 23, 24, 25, 18000, 18001, 18002, 18003, 18004, 18005, 189000] φ ψ43 := fr_tr hG42 hF43 (by decide)
            have e43 := e42.trans (bnv_e hE43)
            exact hQ ψ43 hI43 hG43 e43
  · skip
    have e2b := e1.trans (if_neg q2)
    refine ⟨by unfold hi; omega, fun q45 => ?_, fun q45 => ?_⟩
    · skip
      have e45a := e2b.trans (if_pos q45)
      refine ⟨by unfold hi; omega, by unfold hi; omega, fun q46 => ?_, fun q46 => ?_⟩
      · skip
        have e46a := e45a.trans (if_pos q46)
        refine ⟨by unfold hi; omega, by unfold hi; omega, fun q47 => ?_, fun q47 => ?_⟩
        · skip
          have e47a := e46a.trans (if_pos q47)
          refine sf_91_17_5 (φ := ψ1) hI1  (fun ψ48 hI48 hF48 hE48 => ⟨rfl, rfl, ?_⟩)
          have hG48 : Fr [18, 19, 20, 21, 22, 23, 24, 25, 18000, 18001, 18002, 18003, 18004, 18005, 189000] φ ψ48 := fr_tr hG1 hF48 (by decide)
          have e48 := e47a.trans (bnv_e hE48)
          exact hQ ψ48 hI48 hG48 e48
        · skip
          have e47b := e46a.trans (if_neg q47)
          refine sf_87_17 (φ := ψ1) hI1  (fun z50 hp50 hE50 => ⟨rfl, rfl, z50, rfl, ?_⟩)
          have e50 := e47b.trans (bnp_e hE50)
          refine ⟨by unfold hi; omega, fun q51 => ?_, fun q51 => ?_⟩
          · skip
            have e51a := e50.trans (if_pos q51)
            refine sf_91_17_5 (φ := ψ1) hI1  (fun ψ52 hI52 hF52 hE52 => ⟨rfl, rfl, ?_⟩)
            have hG52 : Fr [18, 19, 20, 21, 22, 23, 24, 25, 18000, 18001, 18002, 18003, 18004, 18005, 189000] φ ψ52 := fr_tr hG1 hF52 (by decide)
            have e52 := e51a.trans (bnv_e hE52)
            exact hQ ψ52 hI52 hG52 e52
          · skip
            have e51b := e50.trans (if_neg q51)
            refine sf_88_17 (φ := ψ1) hI1  (fun ψ54 hI54 hF54 hE54 => ⟨rfl, rfl, ?_⟩)
            have hG54 : Fr [18, 19, 20, 21, 22, 23, 24, 25, 18000, 18001, 18002, 18003, 18004, 18005, 189000] φ ψ54 := fr_tr hG1 hF54 (by decide)
            have e54 := e51b.trans (bnv_e hE54)
            refine sf_91_17_5 (φ := ψ54) hI54  (fun ψ55 hI55 hF55 hE55 => ⟨rfl, rfl, ?_⟩)
            have hG55 : Fr [18, 19, 20, 21, 22, 23, 24, 25, 18000, 18001, 18002, 18003, 18004, 18005, 189000] φ ψ55 := fr_tr hG54 hF55 (by decide)
            have e55 := e54.trans (bnv_e hE55)
            exact hQ ψ55 hI55 hG55 e55
      · skip
        have e46b := e45a.trans (if_neg q46)
        refine ⟨by unfold hi; omega, fun q57 => ?_, fun q57 => ?_⟩
        · skip
          have e57a := e46b.trans (if_pos q57)
          refine ⟨by unfold hi; omega, by unfold hi; omega, fun q58 => ?_, fun q58 => ?_⟩
          · skip
            have e58a := e57a.trans (if_pos q58)
            refine sf_91_17_5 (φ := ψ1) hI1  (fun ψ59 hI59 hF59 hE59 => ⟨rfl, rfl, ?_⟩)
            have hG59 : Fr [18, 19, 20, 21, 22, 23, 24, 25, 18000, 18001, 18002, 18003, 18004, 18005, 189000] φ ψ59 := fr_tr hG1 hF59 (by decide)
            have e59 := e58a.trans (bnv_e hE59)
            exact hQ ψ59 hI59 hG59 e59
          · skip
            have e58b := e57a.trans (if_neg q58)
            refine sf_87_17 (φ := ψ1) hI1  (fun z61 hp61 hE61 => ⟨rfl, rfl, z61, rfl, ?_⟩)
            have e61 := e58b.trans (bnp_e hE61)
            refine ⟨by unfold hi; omega, fun q62 => ?_, fun q62 => ?_⟩
            · skip
              have e62a := e61.trans (if_pos q62)
              refine sf_91_17_5 (φ := ψ1) hI1  (fun ψ63 hI63 hF63 hE63 => ⟨rfl, rfl, ?_⟩)
              have hG63 : Fr [18, 19, 20, 21, 22, 23, 24, 25, 18000, 18001, 18002, 18003, 18004, 18005, 189000] φ ψ63 := fr_tr hG1 hF63 (by decide)
              have e63 := e62a.trans (bnv_e hE63)
              exact hQ ψ63 hI63 hG63 e63
            · skip
              have e62b := e61.trans (if_neg q62)
              refine sf_88_17 (φ := ψ1) hI1  (fun ψ65 hI65 hF65 hE65 => ⟨rfl, rfl, ?_⟩)
              have hG65 : Fr [18, 19, 20, 21, 22, 23, 24, 25, 18000, 18001, 18002, 18003, 18004, 18005, 189000] φ ψ65 := fr_tr hG1 hF65 (by decide)
              have e65 := e62b.trans (bnv_e hE65)
              refine sf_91_17_5 (φ := ψ65) hI65  (fun ψ66 hI66 hF66 hE66 => ⟨rfl, rfl, ?_⟩)
              have hG66 : Fr [18, 19, 20, 21, 22, 23, 24, 25, 18000, 18001, 18002, 18003, 18004, 18005, 189000] φ ψ66 := fr_tr hG65 hF66 (by decide)
              have e66 := e65.trans (bnv_e hE66)
              exact hQ ψ66 hI66 hG66 e66
        · skip
          have e57b := e46b.trans (if_neg q57)
          refine ⟨by unfold hi; omega, fun q68 => ?_, fun q68 => ?_⟩
          · skip
            have e68a := e57b.trans (if_pos q68)
            refine ⟨by unfold hi; omega, by unfold hi; omega, fun q69 => ?_, fun q69 => ?_⟩
            · skip
              have e69a := e68a.trans (if_pos q69)
              refine sf_91_17_5 (φ := ψ1) hI1  (fun ψ70 hI70 hF70 hE70 => ⟨rfl, rfl, ?_⟩)
              have hG70 : Fr [18, 19, 20, 21, 22, 23, 24, 25, 18000, 18001, 18002, 18003, 18004, 18005, 189000] φ ψ70 := fr_tr hG1 hF70 (by decide)
              have e70 := e69a.trans (bnv_e hE70)
              exact hQ ψ70 hI70 hG70 e70
            · skip
              have e69b := e68a.trans (if_neg q69)
              refine sf_87_17 (φ := ψ1) hI1  (fun z72 hp72 hE72 => ⟨rfl, rfl, z72, rfl, ?_⟩)
              have e72 := e69b.trans (bnp_e hE72)
              refine ⟨by unfold hi; omega, fun q73 => ?_, fun q73 => ?_⟩
              · skip
                have e73a := e72.trans (if_pos q73)
                refine sf_91_17_5 (φ := ψ1) hI1  (fun ψ74 hI74 hF74 hE74 => ⟨rfl, rfl, ?_⟩)
                have hG74 : Fr [18, 19, 20, 21, 22, 23, 24, 25, 18000, 18001, 18002, 18003, 18004, 18005, 189000] φ ψ74 := fr_tr hG1 hF74 (by decide)
                have e74 := e73a.trans (bnv_e hE74)
                exact hQ ψ74 hI74 hG74 e74
              · skip
                have e73b := e72.trans (if_neg q73)
                refine sf_88_17 (φ := ψ1) hI1  (fun ψ76 hI76 hF76 hE76 => ⟨rfl, rfl, ?_⟩)
                have hG76 : Fr [18, 19, 20, 21, 22, 23, 24, 25, 18000, 18001, 18002, 18003, 18004, 18005, 189000] φ ψ76 := fr_tr hG1 hF76 (by decide)
                have e76 := e73b.trans (bnv_e hE76)
                refine sf_91_17_5 (φ := ψ76) hI76  (fun ψ77 hI77 hF77 hE77 => ⟨rfl, rfl, ?_⟩)
                have hG77 : Fr [18, 19, 20, 21, 22, 23, 24, 25, 18000, 18001, 18002, 18003, 18004, 18005, 189000] φ ψ77 := fr_tr hG76 hF77 (by decide)
                have e77 := e76.trans (bnv_e hE77)
                exact hQ ψ77 hI77 hG77 e77
          · skip
            have e68b := e57b.trans (if_neg q68)
            refine sf_128_188 (φ := ψ1) hI1 (by omega) (by omega) (fun z79 ψ79 hI79 hF79 hp79 hE79 => ⟨rfl, z79, rfl, ?_⟩)
            have hG79 : Fr [18, 19, 20, 21, 22, 23, 24, 25, 18000, 18001, 18002, 18003, 18004, 18005, 189000] φ ψ79 := fr_tr hG1 hF79 (by decide)
            have e79 := e68b.trans (bnd_e hE79)
            refine sf_128_188 (φ := ψ79) hI79 (by omega) (by omega) (fun z80 ψ80 hI80 hF80 hp80 hE80 => ⟨rfl, z80, rfl, ?_⟩)
            have hG80 : Fr [18, 19, 20, 21, 22, 23, 24, 25, 18000, 18001, 18002, 18003, 18004, 18005, 189000] φ ψ80 := fr_tr hG79 hF80 (by decide)
            have e80 := e79.trans (bnd_e hE80)
            refine sf_54_17 (φ := ψ80) hI80 (by omega) (by omega) (fun z81 hp81 hE81 => ⟨rfl, rfl, z81, rfl, ?_⟩)
            have e81 := e80.trans (bnp_e hE81)
            have f11 := iv_ar (a := 21) (s := 0) (t := 6) (lo := 0) (u := 6) (z := z79) hI80 (by decide +kernel) (by omega) (by omega)
            have f12 : ψ80 21 ((z79).toNat) = ψ79 21 ((z79).toNat) := (fr_at hF80 21 (by decide) ((z79).toNat))
            have f13 := iv_ar (a := 21) (s := 0) (t := 6) (lo := 0) (u := 6) (z := z79) hI79 (by decide +kernel) (by omega) (by omega)
            have f14 : ψ79 21 ((z79).toNat) = ψ1 21 ((z79).toNat) := (fr_at hF79 21 (by decide) ((z79).toNat))
            have f15 := iv_ar (a := 21) (s := 0) (t := 6) (lo := 0) (u := 6) (z := z79) hI1 (by decide +kernel) (by omega) (by omega)
            have f16 : ψ1 21 ((z79).toNat) = φ 21 ((z79).toNat) := (fr_at hF1 21 (by decide) ((z79).toNat))
            have f17 := iv_ar (a := 21) (s := 0) (t := 6) (lo := 0) (u := 6) (z := z79) hI (by decide +kernel) (by omega) (by omega)
            refine ⟨by unfold hi; omega, fun q82 => ?_, fun q82 => ?_⟩
            · skip
              have e82a := e81.trans (if_pos q82)
              refine sf_91_17_5 (φ := ψ80) hI80  (fun ψ83 hI83 hF83 hE83 => ⟨rfl, rfl, ?_⟩)
              have hG83 : Fr [18, 19, 20, 21, 22, 23, 24, 25, 18000, 18001, 18002, 18003, 18004, 18005, 189000] φ ψ83 := fr_tr hG80 hF83 (by decide)
              have e83 := e82a.trans (bnv_e hE83)
              exact hQ ψ83 hI83 hG83 e83
            · skip
              have e82b := e81.trans (if_neg q82)
              refine sf_55_17 (φ := ψ80) hI80 (by omega) (by omega) (by omega) (by omega) (by rw [show ψ80 21 ((z79).toNat) = ψ80 21 ((z79).toNat) from rfl]; constructor <;> omega) (fun ψ85 hI85 hF85 hE85 => ⟨rfl, rfl, ?_⟩)
              have hG85 : Fr [18, 19, 20, 21, 22, 23, 24, 25, 18000, 18001, 18002, 18003, 18004, 18005, 189000] φ ψ85 := fr_tr hG80 hF85 (by decide)
              have e85 := e82b.trans (bnv_e hE85)
              refine sf_91_17_5 (φ := ψ85) hI85  (fun ψ86 hI86 hF86 hE86 => ⟨rfl, rfl, ?_⟩)
              have hG86 : Fr [18, 19, 20, 21, 22, 23, 24, 25, 18000, 18001, 18002, 18003, 18004, 18005, 189000] φ ψ86 := fr_tr hG85 hF86 (by decide)
              have e86 := e85.trans (bnv_e hE86)
              exact hQ ψ86 hI86 hG86 e86
    · skip
      have e45b := e2b.trans (if_neg q45)
      refine ⟨by unfold hi; omega, fun q88 => ?_, fun q88 => ?_⟩
      · skip
        have e88a := e45b.trans (if_pos q88)
        refine ⟨by unfold hi; omega, by unfold hi; omega, fun q89 => ?_, fun q89 => ?_⟩
        · skip
          have e89a := e88a.trans (if_pos q89)
          refine ⟨by unfold hi; omega, by unfold hi; omega, fun q90 => ?_, fun q90 => ?_⟩
          · skip
            have e90a := e89a.trans (if_pos q90)
            refine sf_91_17_5 (φ := ψ1) hI1  (fun ψ91 hI91 hF91 hE91 => ⟨rfl, rfl, ?_⟩)
            have hG91 : Fr [18, 19, 20, 21, 22, 23, 24, 25, 18000, 18001, 18002, 18003, 18004, 18005, 189000] φ ψ91 := fr_tr hG1 hF91 (by decide)
            have e91 := e90a.trans (bnv_e hE91)
            exact hQ ψ91 hI91 hG91 e91
          · skip
            have e90b := e89a.trans (if_neg q90)
            refine sf_87_17 (φ := ψ1) hI1  (fun z93 hp93 hE93 => ⟨rfl, rfl, z93, rfl, ?_⟩)
            have e93 := e90b.trans (bnp_e hE93)
            refine ⟨by unfold hi; omega, fun q94 => ?_, fun q94 => ?_⟩
            · skip
              have e94a := e93.trans (if_pos q94)
              refine sf_91_17_5 (φ := ψ1) hI1  (fun ψ95 hI95 hF95 hE95 => ⟨rfl, rfl, ?_⟩)
              have hG95 : Fr [18, 19, 20, 21, 22, 23, 24, 25, 18000, 18001, 18002, 18003, 18004, 18005, 189000] φ ψ95 := fr_tr hG1 hF95 (by decide)
              have e95 := e94a.trans (bnv_e hE95)
              exact hQ ψ95 hI95 hG95 e95
            · skip
              have e94b := e93.trans (if_neg q94)
              refine sf_88_17 (φ := ψ1) hI1  (fun ψ97 hI97 hF97 hE97 => ⟨rfl, rfl, ?_⟩)
              have hG97 : Fr [18, 19, 20, 21, 22, 23, 24, 25, 18000, 18001, 18002, 18003, 18004, 18005, 189000] φ ψ97 := fr_tr hG1 hF97 (by decide)
              have e97 := e94b.trans (bnv_e hE97)
              refine sf_91_17_5 (φ := ψ97) hI97  (fun ψ98 hI98 hF98 hE98 => ⟨rfl, rfl, ?_⟩)
              have hG98 : Fr [18, 19, 20, 21, 22, 23, 24, 25, 18000, 18001, 18002, 18003, 18004, 18005, 189000] φ ψ98 := fr_tr hG97 hF98 (by decide)
              have e98 := e97.trans (bnv_e hE98)
              exact hQ ψ98 hI98 hG98 e98
        · skip
          have e89b := e88a.trans (if_neg q89)
          refine ⟨by unfold hi; omega, fun q100 => ?_, fun q100 => ?_⟩
          · skip
            have e100a := e89b.trans (if_pos q100)
            refine ⟨by unfold hi; omega, by unfold hi; omega, fun q101 => ?_, fun q101 => ?_⟩
            · skip
              have e101a := e100a.trans (if_pos q101)
              refine sf_91_17_5 (φ := ψ1) hI1  (fun ψ102 hI102 hF102 hE102 => ⟨rfl, rfl, ?_⟩)
              have hG102 : Fr [18, 19, 20, 21, 22, 23, 24, 25, 18000, 18001, 18002, 18003, 18004, 18005, 189000] φ ψ102 := fr_tr hG1 hF102 (by decide)
              have e102 := e101a.trans (bnv_e hE102)
              exact hQ ψ102 hI102 hG102 e102
            · skip
              have e101b := e100a.trans (if_neg q101)
              refine sf_87_17 (φ := ψ1) hI1  (fun z104 hp104 hE104 => ⟨rfl, rfl, z104, rfl, ?_⟩)
              have e104 := e101b.trans (bnp_e hE104)
              refine ⟨by unfold hi; omega, fun q105 => ?_, fun q105 => ?_⟩
              · skip
                have e105a := e104.trans (if_pos q105)
                refine sf_91_17_5 (φ := ψ1) hI1  (fun ψ106 hI106 hF106 hE106 => ⟨rfl, rfl, ?_⟩)
                have hG106 : Fr [18, 19, 20, 21, 22, 23, 24, 25, 18000, 18001, 18002, 18003, 18004, 18005, 189000] φ ψ106 := fr_tr hG1 hF106 (by decide)
                have e106 := e105a.trans (bnv_e hE106)
                exact hQ ψ106 hI106 hG106 e106
              · skip
                have e105b := e104.trans (if_neg q105)
                refine sf_88_17 (φ := ψ1) hI1  (fun ψ108 hI108 hF108 hE108 => ⟨rfl, rfl, ?_⟩)
                have hG108 : Fr [18, 19, 20, 21, 22, 23, 24, 25, 18000, 18001, 18002, 18003, 18004, 18005, 189000] φ ψ108 := fr_tr hG1 hF108 (by decide)
                have e108 := e105b.trans (bnv_e hE108)
                refine sf_91_17_5 (φ := ψ108) hI108  (fun ψ109 hI109 hF109 hE109 => ⟨rfl, rfl, ?_⟩)
                have hG109 : Fr [18, 19, 20, 21, 22, 23, 24, 25, 18000, 18001, 18002, 18003, 18004, 18005, 189000] φ ψ109 := fr_tr hG108 hF109 (by decide)
                have e109 := e108.trans (bnv_e hE109)
                exact hQ ψ109 hI109 hG109 e109
          · skip
            have e100b := e89b.trans (if_neg q100)
            refine ⟨by unfold hi; omega, fun q111 => ?_, fun q111 => ?_⟩
            · skip
              have e111a := e100b.trans (if_pos q111)
              refine ⟨by unfold hi; omega, by unfold hi; omega, fun q112 => ?_, fun q112 => ?_⟩
              · skip
                have e112a := e111a.trans (if_pos q112)
                refine sf_91_17_5 (φ := ψ1) hI1  (fun ψ113 hI113 hF113 hE113 => ⟨rfl, rfl, ?_⟩)
                have hG113 : Fr [18, 19, 20, 21, 22, 23, 24, 25, 18000, 18001, 18002, 18003, 18004, 18005, 189000] φ ψ113 := fr_tr hG1 hF113 (by decide)
                have e113 := e112a.trans (bnv_e hE113)
                exact hQ ψ113 hI113 hG113 e113
              · skip
                have e112b := e111a.trans (if_neg q112)
                refine sf_87_17 (φ := ψ1) hI1  (fun z115 hp115 hE115 => ⟨rfl, rfl, z115, rfl, ?_⟩)
                have e115 := e112b.trans (bnp_e hE115)
                refine ⟨by unfold hi; omega, fun q116 => ?_, fun q116 => ?_⟩
                · skip
                  have e116a := e115.trans (if_pos q116)
                  refine sf_91_17_5 (φ := ψ1) hI1  (fun ψ117 hI117 hF117 hE117 => ⟨rfl, rfl, ?_⟩)
                  have hG117 : Fr [18, 19, 20, 21, 22, 23, 24, 25, 18000, 18001, 18002, 18003, 18004, 18005, 189000] φ ψ117 := fr_tr hG1 hF117 (by decide)
                  have e117 := e116a.trans (bnv_e hE117)
                  exact hQ ψ117 hI117 hG117 e117
                · skip
                  have e116b := e115.trans (if_neg q116)
                  refine sf_88_17 (φ := ψ1) hI1  (fun ψ119 hI119 hF119 hE119 => ⟨rfl, rfl, ?_⟩)
                  have hG119 : Fr [18, 19, 20, 21, 22, 23, 24, 25, 18000, 18001, 18002, 18003, 18004, 18005, 189000] φ ψ119 := fr_tr hG1 hF119 (by decide)
                  have e119 := e116b.trans (bnv_e hE119)
                  refine sf_91_17_5 (φ := ψ119) hI119  (fun ψ120 hI120 hF120 hE120 => ⟨rfl, rfl, ?_⟩)
                  have hG120 : Fr [18, 19, 20, 21, 22, 23, 24, 25, 18000, 18001, 18002, 18003, 18004, 18005, 189000] φ ψ120 := fr_tr hG119 hF120 (by decide)
                  have e120 := e119.trans (bnv_e hE120)
                  exact hQ ψ120 hI120 hG120 e120
            · skip
              have e111b := e100b.trans (if_neg q111)
              refine sf_128_188 (φ := ψ1) hI1 (by omega) (by omega) (fun z122 ψ122 hI122 hF122 hp122 hE122 => ⟨rfl, z122, rfl, ?_⟩)
              have hG122 : Fr [18, 19, 20, 21, 22, 23, 24, 25, 18000, 18001, 18002, 18003, 18004, 18005, 189000] φ ψ122 := fr_tr hG1 hF122 (by decide)
              have e122 := e111b.trans (bnd_e hE122)
              refine sf_128_188 (φ := ψ122) hI122 (by omega) (by omega) (fun z123 ψ123 hI123 hF123 hp123 hE123 => ⟨rfl, z123, rfl, ?_⟩)
              have hG123 : Fr [18, 19, 20, 21, 22, 23, 24, 25, 18000, 18001, 18002, 18003, 18004, 18005, 189000] φ ψ123 := fr_tr hG122 hF123 (by decide)
              have e123 := e122.trans (bnd_e hE123)
              refine sf_54_17 (φ := ψ123) hI123 (by omega) (by omega) (fun z124 hp124 hE124 => ⟨rfl, rfl, z124, rfl, ?_⟩)
              have e124 := e123.trans (bnp_e hE124)
              have f18 := iv_ar (a := 21) (s := 0) (t := 6) (lo := 0) (u := 6) (z := z122) hI123 (by decide +kernel) (by omega) (by omega)
              have f19 : ψ123 21 ((z122).toNat) = ψ122 21 ((z122).toNat) := (fr_at hF123 21 (by decide) ((z122).toNat))
              have f20 := iv_ar (a := 21) (s := 0) (t := 6) (lo := 0) (u := 6) (z := z122) hI122 (by decide +kernel) (by omega) (by omega)
              have f21 : ψ122 21 ((z122).toNat) = ψ1 21 ((z122).toNat) := (fr_at hF122 21 (by decide) ((z122).toNat))
              have f22 := iv_ar (a := 21) (s := 0) (t := 6) (lo := 0) (u := 6) (z := z122) hI1 (by decide +kernel) (by omega) (by omega)
              have f23 : ψ1 21 ((z122).toNat) = φ 21 ((z122).toNat) := (fr_at hF1 21 (by decide) ((z122).toNat))
              have f24 := iv_ar (a := 21) (s := 0) (t := 6) (lo := 0) (u := 6) (z := z122) hI (by decide +kernel) (by omega) (by omega)
              refine ⟨by unfold hi; omega, fun q125 => ?_, fun q125 => ?_⟩
              · skip
                have e125a := e124.trans (if_pos q125)
                refine sf_91_17_5 (φ := ψ123) hI123  (fun ψ126 hI126 hF126 hE126 => ⟨rfl, rfl, ?_⟩)
                have hG126 : Fr [18, 19, 20, 21, 22, 23, 24, 25, 18000, 18001, 18002, 18003, 18004, 18005, 189000] φ ψ126 := fr_tr hG123 hF126 (by decide)
                have e126 := e125a.trans (bnv_e hE126)
                exact hQ ψ126 hI126 hG126 e126
              · skip
                have e125b := e124.trans (if_neg q125)
                refine sf_55_17 (φ := ψ123) hI123 (by omega) (by omega) (by omega) (by omega) (by rw [show ψ123 21 ((z122).toNat) = ψ123 21 ((z122).toNat) from rfl]; constructor <;> omega) (fun ψ128 hI128 hF128 hE128 => ⟨rfl, rfl, ?_⟩)
                have hG128 : Fr [18, 19, 20, 21, 22, 23, 24, 25, 18000, 18001, 18002, 18003, 18004, 18005, 189000] φ ψ128 := fr_tr hG123 hF128 (by decide)
                have e128 := e125b.trans (bnv_e hE128)
                refine sf_91_17_5 (φ := ψ128) hI128  (fun ψ129 hI129 hF129 hE129 => ⟨rfl, rfl, ?_⟩)
                have hG129 : Fr [18, 19, 20, 21, 22, 23, 24, 25, 18000, 18001, 18002, 18003, 18004, 18005, 189000] φ ψ129 := fr_tr hG128 hF129 (by decide)
                have e129 := e128.trans (bnv_e hE129)
                exact hQ ψ129 hI129 hG129 e129
      · skip
        have e88b := e45b.trans (if_neg q88)
        refine sf_128_188 (φ := ψ1) hI1 (by omega) (by omega) (fun z131 ψ131 hI131 hF131 hp131 hE131 => ⟨rfl, z131, rfl, ?_⟩)
        have hG131 : Fr [18, 19, 20, 21, 22, 23, 24, 25, 18000, 18001, 18002, 18003, 18004, 18005, 189000] φ ψ131 := fr_tr hG1 hF131 (by decide)
        have e131 := e88b.trans (bnd_e hE131)
        refine sf_128_188 (φ := ψ131) hI131 (by omega) (by omega) (fun z132 ψ132 hI132 hF132 hp132 hE132 => ⟨rfl, z132, rfl, ?_⟩)
        have hG132 : Fr [18, 19, 20, 21, 22, 23, 24, 25, 18000, 18001, 18002, 18003, 18004, 18005, 189000] φ ψ132 := fr_tr hG131 hF132 (by decide)
        have e132 := e131.trans (bnd_e hE132)
        refine sf_129_17 (φ := ψ132) hI132 (by omega) (by omega) (by omega) (by omega) (fun ψ133 hI133 hF133 hE133 => ⟨rfl, rfl, ?_⟩)
        have hG133 : Fr [18, 19, 20, 21, 22, 23, 24, 25, 18000, 18001, 18002, 18003, 18004, 18005, 189000] φ ψ133 := fr_tr hG132 hF133 (by decide)
        have e133 := e132.trans (bnv_e hE133)
        refine sf_91_17_5 (φ := ψ133) hI133  (fun ψ134 hI134 hF134 hE134 => ⟨rfl, rfl, ?_⟩)
        have hG134 : Fr [18, 19, 20, 21, 22, 23, 24, 25, 18000, 18001, 18002, 18003, 18004, 18005, 189000] φ ψ134 := fr_tr hG133 hF134 (by decide)
        have e134 := e133.trans (bnv_e hE134)
        exact hQ ψ134 hI134 hG134 e134
theorem sf_126_0_v57 {sc : List Int} {d : Nat} {φ : hf_F} {x : Nat} {Q : Option jm_V → hf_F → Nat → Prop} {L : jm_L} {l1 l2 l3 l4 : Int} (g0 : jm_get L 0 = some (2, 0)) (g1 : jm_get L 1 = some (0, l1)) (g2 : jm_get L 2 = some (0, l2)) (g3 : jm_get L 3 = some (0, l3)) (g4 : jm_get L 4 = some (0, l4))
    (H : hi l4 ∧ ((jm_n l3) ≤ l4 → Q (some (0, l3)) φ x) ∧ (¬ (jm_n l3) ≤ l4 → hw sc (d + 3) 127 0 [(0, (2, 17)), (1, (2, 5)), (2, (2, 188))] [] φ x (fun r ψ3 y3 => y3 = x ∧ (r = none ∧ (hw sc (d + 4) 126 57 (jm_st1 L 4 (0, l4 + 1)) [] ψ3 x Q))))) :
    hw sc (d + 4) 126 57 L [] φ x Q := by
  refine hw_ld (b := 4) (e := 1) (by decide +kernel) g4 ?_
  refine hw_ld (b := 3) (e := 0) (by decide +kernel) g3 ?_
  obtain ⟨hz1, ht1, hf1⟩ := H
  refine hw_if2r (a0 := 0) (b := 3) (e := 90) (by decide +kernel) hz1 (fun q => ?_) (fun q => ?_)
  · have H := ht1 q
    refine hw_ld (b := 3) (e := 0) (by decide +kernel) g3 ?_
    exact hw_ret (a0 := 0) (e := 0) (by decide +kernel) (Or.inl rfl) H
  · have H := hf1 q
    refine hw_ald (b := 0) (e := 0) (by decide +kernel) g0 (by decide) ?_
    refine hr_gr (w := 4) (b := 0) (e := 1) 0 rfl (by decide +kernel) ?_
    refine hr_gr (w := 17) (b := 2) (e := 1) 4 rfl (by decide +kernel) ?_
    refine hw_ald (b := 0) (e := 0) (by decide +kernel) g0 (by decide) ?_
    refine hr_gr (w := 4) (b := 0) (e := 1) 0 rfl (by decide +kernel) ?_
    refine hr_gr (w := 5) (b := 2) (e := 0) 4 rfl (by decide +kernel) ?_
    refine hw_ald (b := 0) (e := 0) (by decide +kernel) g0 (by decide) ?_
    refine hr_gr (w := 188) (b := 0) (e := 9) 0 rfl (by decide +kernel) ?_
    refine hr_call (a0 := 14) (b := 127) (e := 3) (nl := 9) (As := [(2, 5), (2, 188)]) (R := []) 17 rfl (by decide +kernel) rfl rfl (Nat.le_of_ble_eq_true rfl) (Nat.le_of_ble_eq_true rfl) ?_
    refine hw_mono H ?_
    rintro r ψ3 y3 ⟨hyx, hr, H⟩
    subst hyx
    subst hr
    refine ⟨hnen, ?_⟩
    show hw sc (d + 4) 126 84 L [] ψ3 y3 Q
    refine hw_inc (L' := (jm_st1 L 4 (0, l4 + 1))) (c := 1) (b := 4) (e := 0) (by decide +kernel) g4 rfl ?_
    refine hw_goto (a0 := 0) (b := 0) (e := 57) (by decide +kernel) ?_
    exact H
theorem sf_126_0_l57 {sc : List Int} {d x : Nat} {Q : Option jm_V → hf_F → Nat → Prop} : ∀ (n : Nat) (φ : hf_F) (L : jm_L) (l1 l2 l3 l4 : Int), jm_get L 0 = some (2, 0) → jm_get L 1 = some (0, l1) → jm_get L 2 = some (0, l2) → jm_get L 3 = some (0, l3) → jm_get L 4 = some (0, l4) → Inv φ → 60 - l4 < (n : Int) → 0 ≤ l4 → l4 ≤ 60 → jm_n l3 ≤ 60 → (∀ (r : Int) (ψ : hf_F), Inv ψ → Fr [18, 19, 20, 21, 22, 23, 24, 25, 109, 111, 112, 113, 114, 115, 116, 117, 118, 120, 121, 122, 123, 124, 125, 126, 127, 129, 130, 131, 132, 133, 134, 135, 136, 138, 139, 140, 141, 142, 143, 144, 145, 147, 148, 149, 150, 151, 152, 153, 154, 156, 157, 158, 159, 160, 161, 162, 163, 165, 166, 167, 168, 169, 170, 171, 172, 174, 175, 176, 177, 178, 179, 180, 181, 18000, 18001, 18002, 18003, 18004, 18005, 109001, 111000, 111001, 111002, 111003, 111004, 111005, 120000, 120001, 120002, 120003, 120004, 120005, 129000, 129001, 129002, 129003, 129004, 129005, 138000, 138001, 138002, 138003, 138004, 138005, 147000, 147001, 147002, 147003, 147004, 147005, 156000, 156001, 156002, 156003, 156004, 156005, 165000, 165001, 165002, 165003, 165004, 165005, 174000, 174001, 174002, 174003, 174004, 174005, 189000] φ ψ → True → F_RideLaws_drawn_0_l57 n φ l1 l2 l3 l4 = (r, ψ) → Q (some (0, r)) ψ x) → hw sc (d + 4) 126 57 L [] φ x Q := by
  intro n
  induction n with
  | zero =>
    intro φ L l1 l2 l3 l4 g0 g1 g2 g3 g4 hI hM b4a b4b c0 hQ
    exfalso
    omega
  | succ n ih =>
    intro φ L l1 l2 l3 l4 g0 g1 g2 g3 g4 hI hM b4a b4b c0 hQ
    refine sf_126_0_v57 g0 g1 g2 g3 g4 ?_
    have e0 := F_RideLaws_drawn_0_l57_s (φ := φ) (l1 := l1) (l2 := l2) (l3 := l3) (l4 := l4) n
    have f1 := hr_n l3
    refine ⟨by unfold hi; omega, fun q1 => ?_, fun q1 => ?_⟩
    · skip
      have e1a := e0.trans (if_pos q1)
      exact hQ l3 φ hI (fr_rf) trivial e1a
    · skip
      have e1b := e0.trans (if_neg q1)
      refine sf_127_17_5_188 (φ := φ) hI  (fun ψ3 hI3 hF3 hE3 => ⟨rfl, rfl, ?_⟩)
      have hG3 : Fr [18, 19, 20, 21, 22, 23, 24, 25, 109, 111, 112, 113, 114, 115, 116, 117, 118, 120, 121, 122, 123, 124, 125, 126, 127, 129, 130, 131, 132, 133, 134, 135, 136, 138, 139, 140, 141, 142, 143, 144, 145, 147, 148, 149, 150, 151, 152, 153, 154, 156, 157, 158, 159, 160, 161, 162, 163, 165, 166, 167, 168, 169, 170, 171, 172, 174, 175, 176, 177, 178, 179, 180, 181, 18000, 18001, 18002, 18003, 18004, 18005, 109001, 111000, 111001, 111002, 111003, 111004, 111005, 120000, 120001, 120002, 120003, 120004, 120005, 129000, 129001, 129002, 129003, 129004, 129005, 138000, 138001, 138002, 138003, 138004, 138005, 147000, 147001, 147002, 147003, 147004, 147005, 156000, 156001, 156002, 156003, 156004, 156005, 165000, 165001, 165002, 165003, 165004, 165005, 174000, 174001, 174002, 174003, 174004, 174005, 189000] φ ψ3 := fr_tr (fr_rf) hF3 (by decide)
      have e3 := e1b.trans (bnv_e hE3)
      exact ih ψ3 (jm_st1 L 4 (0, l4 + 1)) l1 l2 l3 (l4 + 1) (get_st1 g0 (by decide) (fun q => absurd q.1 (by decide))) (get_st1 g1 (by decide) (fun q => absurd q.1 (by decide))) (get_st1 g2 (by decide) (fun q => absurd q.1 (by decide))) (get_st1 g3 (by decide) (fun q => tg0 q.2)) get_st1e hI3 (by omega) (by omega) (by omega) (by omega) (fun rr χ hIχ hFχ hpχ hEχ => hQ rr χ hIχ (fr_tr hG3 hFχ (by decide)) hpχ (e3.trans hEχ))
theorem sf_126_0_v {sc : List Int} {d : Nat} {φ : hf_F} {x : Nat} {Q : Option jm_V → hf_F → Nat → Prop} {v1 v2 : Int}
    (H : hi v1 ∧ hi 1 ∧ (v1 < 1 → Q (some (0, (-1 : Int))) φ x) ∧ (¬ v1 < 1 → hi v1 ∧ hi 60 ∧ (v1 ≤ 60 → hw sc (d + 3) 90 0 [(0, (2, 17))] [] φ x (fun r ψ4 y4 => y4 = x ∧ φ = ψ4 ∧ (∃ z4 : Int, r = some (0, z4) ∧ (((jm_n (if jm_n z4 < jm_n v1 then z4 else v1)) ≤ 0 → hw sc (d + 4) 126 57 (jm_st1 (jm_st1 [(0, (2, 0)), (1, (0, v1)), (2, (0, v2))] 3 (0, if jm_n z4 < jm_n v1 then z4 else v1)) 4 (0, 0)) [] (hf_up φ 188 0 v2) x Q) ∧ (¬ (jm_n (if jm_n z4 < jm_n v1 then z4 else v1)) ≤ 0 → hw sc (d + 3) 80 0 [(0, (2, 108)), (1, (2, 17))] [] φ x (fun r ψ8 y8 => y8 = x ∧ (r = none ∧ (hw sc (d + 4) 126 57 (jm_st1 (jm_st1 [(0, (2, 0)), (1, (0, v1)), (2, (0, v2))] 3 (0, if jm_n z4 < jm_n v1 then z4 else v1)) 4 (0, 0)) [] (hf_up ψ8 188 0 v2) x Q)))))))) ∧ (¬ v1 ≤ 60 → Q (some (0, (-1 : Int))) φ x))) :
    hw sc (d + 4) 126 0 [(0, (2, 0)), (1, (0, v1)), (2, (0, v2))] [] φ x Q := by
  refine hw_ld (b := 1) (e := 0) (by decide +kernel) rfl ?_
  refine hw_k (c := 1) (b := 0) (e := 1) (by decide +kernel) ?_
  obtain ⟨hz1, hy1, ht1, hf1⟩ := H
  refine hw_if2 (a0 := 0) (b := 2) (e := 11) (by decide +kernel) hz1 hy1 (fun q => ?_) (fun q => ?_)
  · have H := ht1 q
    refine hw_k (c := (-1 : Int)) (b := 0) (e := 1) (by decide +kernel) ?_
    exact hw_ret (a0 := 0) (e := 0) (by decide +kernel) (Or.inl rfl) H
  · have H := hf1 q
    refine hw_ld (b := 1) (e := 0) (by decide +kernel) rfl ?_
    refine hw_k (c := 60) (b := 1) (e := 2) (by decide +kernel) ?_
    obtain ⟨hz3, hy3, ht3, hf3⟩ := H
    refine hw_if2 (a0 := 0) (b := 5) (e := 13) (by decide +kernel) hz3 hy3 (fun q => ?_) (fun q => ?_)
    · have H := ht3 q
      refine hw_ld (b := 1) (e := 0) (by decide +kernel) rfl ?_
      refine hw_ald (b := 0) (e := 0) (by decide +kernel) rfl (by decide) ?_
      refine hr_gr (w := 4) (b := 0) (e := 1) 0 rfl (by decide +kernel) ?_
      refine hr_gr (w := 17) (b := 2) (e := 1) 4 rfl (by decide +kernel) ?_
      refine hr_call (a0 := 14) (b := 90) (e := 1) (nl := 1) (As := []) (R := [(0, v1)]) 17 rfl (by decide +kernel) rfl rfl (Nat.le_of_ble_eq_true rfl) (Nat.le_of_ble_eq_true rfl) ?_
      refine hw_mono H ?_
      rintro r ψ4 y4 ⟨hyx, hψx, z4, hr, H⟩
      subst hyx
      subst hψx
      subst hr
      refine ⟨hne0, ?_⟩
      show hw sc (d + 4) 126 24 [(0, (2, 0)), (1, (0, v1)), (2, (0, v2))] [(0, z4), (0, v1)] φ y4 Q
      refine hw_minn (a0 := 0) (e := 0) (by decide +kernel) (Nat.le_of_ble_eq_true rfl) ?_
      refine hw_st (L' := (jm_st1 [(0, (2, 0)), (1, (0, v1)), (2, (0, v2))] 3 (0, if jm_n z4 < jm_n v1 then z4 else v1))) (b := 3) (e := 0) (by decide +kernel) rfl ?_
      refine hw_ld (b := 3) (e := 0) (by decide +kernel) get_st1e ?_
      obtain ⟨ht7, hf7⟩ := H
      refine hw_ifn (a0 := 0) (b := 5) (e := 46) (by decide +kernel) (fun q => ?_) (fun q => ?_)
      · have H := ht7 q
        refine hw_ald (b := 0) (e := 0) (by decide +kernel) (get_st1 rfl (by decide) (fun q => absurd q.1 (by decide))) (by decide) ?_
        refine hr_gr (w := 188) (b := 0) (e := 9) 0 rfl (by decide +kernel) ?_
        refine hw_ld (b := 2) (e := 0) (by decide +kernel) (get_st1 rfl (by decide) (fun q => tg0 q.2)) ?_
        refine hr_pi (b := 10) (e := 0) 188 rfl (by decide +kernel) ?_
        refine hw_k (c := 0) (b := 0) (e := 1) (by decide +kernel) ?_
        refine hw_st (L' := (jm_st1 (jm_st1 [(0, (2, 0)), (1, (0, v1)), (2, (0, v2))] 3 (0, if jm_n z4 < jm_n v1 then z4 else v1)) 4 (0, 0))) (b := 4) (e := 1) (by decide +kernel) rfl ?_
        exact H
      · have H := hf7 q
        refine hw_ald (b := 0) (e := 0) (by decide +kernel) (get_st1 rfl (by decide) (fun q => absurd q.1 (by decide))) (by decide) ?_
        refine hr_gr (w := 108) (b := 0) (e := 5) 0 rfl (by decide +kernel) ?_
        refine hw_ald (b := 0) (e := 0) (by decide +kernel) (get_st1 rfl (by decide) (fun q => absurd q.1 (by decide))) (by decide) ?_
        refine hr_gr (w := 4) (b := 0) (e := 1) 0 rfl (by decide +kernel) ?_
        refine hr_gr (w := 17) (b := 2) (e := 1) 4 rfl (by decide +kernel) ?_
        refine hr_call (a0 := 16) (b := 80) (e := 2) (nl := 2) (As := [(2, 17)]) (R := []) 108 rfl (by decide +kernel) rfl rfl (Nat.le_of_ble_eq_true rfl) (Nat.le_of_ble_eq_true rfl) ?_
        refine hw_mono H ?_
        rintro r ψ8 y8 ⟨hyx, hr, H⟩
        subst hyx
        subst hr
        refine ⟨hnen, ?_⟩
        show hw sc (d + 4) 126 46 (jm_st1 [(0, (2, 0)), (1, (0, v1)), (2, (0, v2))] 3 (0, if jm_n z4 < jm_n v1 then z4 else v1)) [] ψ8 y8 Q
        refine hw_ald (b := 0) (e := 0) (by decide +kernel) (get_st1 rfl (by decide) (fun q => absurd q.1 (by decide))) (by decide) ?_
        refine hr_gr (w := 188) (b := 0) (e := 9) 0 rfl (by decide +kernel) ?_
        refine hw_ld (b := 2) (e := 0) (by decide +kernel) (get_st1 rfl (by decide) (fun q => tg0 q.2)) ?_
        refine hr_pi (b := 10) (e := 0) 188 rfl (by decide +kernel) ?_
        refine hw_k (c := 0) (b := 0) (e := 1) (by decide +kernel) ?_
        refine hw_st (L' := (jm_st1 (jm_st1 [(0, (2, 0)), (1, (0, v1)), (2, (0, v2))] 3 (0, if jm_n z4 < jm_n v1 then z4 else v1)) 4 (0, 0))) (b := 4) (e := 1) (by decide +kernel) rfl ?_
        exact H
    · have H := hf3 q
      refine hw_k (c := (-1 : Int)) (b := 0) (e := 1) (by decide +kernel) ?_
      exact hw_ret (a0 := 0) (e := 0) (by decide +kernel) (Or.inl rfl) H
theorem sf_126_0 {sc : List Int} {d : Nat} {φ : hf_F} {x : Nat} {Q : Option jm_V → hf_F → Nat → Prop} {v1 v2 : Int} (hI : Inv φ) (h1a : (-2147483648 : Int) ≤ v1) (h1b : v1 ≤ 2147483647) (h2a : (-2147483648 : Int) ≤ v2) (h2b : v2 ≤ 2147483647) (hQ : ∀ (r : Int) (ψ : hf_F), Inv ψ → Fr [18, 19, 20, 21, 22, 23, 24, 25, 109, 111, 112, 113, 114, 115, 116, 117, 118, 120, 121, 122, 123, 124, 125, 126, 127, 129, 130, 131, 132, 133, 134, 135, 136, 138, 139, 140, 141, 142, 143, 144, 145, 147, 148, 149, 150, 151, 152, 153, 154, 156, 157, 158, 159, 160, 161, 162, 163, 165, 166, 167, 168, 169, 170, 171, 172, 174, 175, 176, 177, 178, 179, 180, 181, 18000, 18001, 18002, 18003, 18004, 18005, 109001, 111000, 111001, 111002, 111003, 111004, 111005, 120000, 120001, 120002, 120003, 120004, 120005, 129000, 129001, 129002, 129003, 129004, 129005, 138000, 138001, 138002, 138003, 138004, 138005, 147000, 147001, 147002, 147003, 147004, 147005, 156000, 156001, 156002, 156003, 156004, 156005, 165000, 165001, 165002, 165003, 165004, 165005, 174000, 174001, 174002, 174003, 174004, 174005, 189000] φ ψ → True → F_RideLaws_drawn_0 φ v1 v2 = (r, ψ) → Q (some (0, r)) ψ x) : hw sc (d + 4) 126 0 [(0, (2, 0)), (1, (0, v1)), (2, (0, v2))] [] φ x Q := by
  apply sf_126_0_v
  have e0 : F_RideLaws_drawn_0 φ v1 v2 = _ := rfl
  refine ⟨by unfold hi; omega, by unfold hi; omega, fun q1 => ?_, fun q1 => ?_⟩
  · skip
    have e1a := e0.trans (if_pos q1)
    exact hQ (-1 : Int) φ hI (fr_rf) trivial e1a
  · skip
    have e1b := e0.trans (if_neg q1)
    refine ⟨by unfold hi; omega, by unfold hi; omega, fun q3 => ?_, fun q3 => ?_⟩
    · skip
      have e3a := e1b.trans (if_pos q3)
      refine sf_90_17 (φ := φ) hI  (fun z4 hp4 hE4 => ⟨rfl, rfl, z4, rfl, ?_⟩)
      have e4 := e3a.trans (bnp_e hE4)
      have f1 := hr_n z4
      have f2 := hr_n v1
      have f3 := hi_n (z := v1) (by unfold hi; omega)
      have f_m5 := hr_minn v1 z4
      have f4 := hr_n (if jm_n z4 < jm_n v1 then z4 else v1)
      refine ⟨fun q7 => ?_, fun q7 => ?_⟩
      · skip
        have e7a := e4.trans (if_pos q7)
        have i5 : Inv (hf_up φ 188 0 v2) := iv_upn hI (by decide) (by decide) (by decide +kernel)
        have r5 : Fr [18, 19, 20, 21, 22, 23, 24, 25, 109, 111, 112, 113, 114, 115, 116, 117, 118, 120, 121, 122, 123, 124, 125, 126, 127, 129, 130, 131, 132, 133, 134, 135, 136, 138, 139, 140, 141, 142, 143, 144, 145, 147, 148, 149, 150, 151, 152, 153, 154, 156, 157, 158, 159, 160, 161, 162, 163, 165, 166, 167, 168, 169, 170, 171, 172, 174, 175, 176, 177, 178, 179, 180, 181, 18000, 18001, 18002, 18003, 18004, 18005, 109001, 111000, 111001, 111002, 111003, 111004, 111005, 120000, 120001, 120002, 120003, 120004, 120005, 129000, 129001, 129002, 129003, 129004, 129005, 138000, 138001, 138002, 138003, 138004, 138005, 147000, 147001, 147002, 147003, 147004, 147005, 156000, 156001, 156002, 156003, 156004, 156005, 165000, 165001, 165002, 165003, 165004, 165005, 174000, 174001, 174002, 174003, 174004, 174005, 189000] φ (hf_up φ 188 0 v2) := fr_up (fr_rf) (by decide)
        exact sf_126_0_l57 ((60 - 0 : Int).toNat + 1) (hf_up φ 188 0 v2) (jm_st1 (jm_st1 [(0, (2, 0)), (1, (0, v1)), (2, (0, v2))] 3 (0, if jm_n z4 < jm_n v1 then z4 else v1)) 4 (0, 0)) v1 v2 (if jm_n z4 < jm_n v1 then z4 else v1) 0 (get_st1 (get_st1 rfl (by decide) (fun q => absurd q.1 (by decide))) (by decide) (fun q => absurd q.1 (by decide))) (get_st1 (get_st1 rfl (by decide) (fun q => absurd q.1 (by decide))) (by decide) (fun q => absurd q.1 (by decide))) (get_st1 (get_st1 rfl (by decide) (fun q => tg0 q.2)) (by decide) (fun q => absurd q.1 (by decide))) (get_st1 get_st1e (by decide) (fun q => tg0 q.2)) get_st1e i5 (by omega) (by omega) (by omega) (by omega) (fun rr χ hIχ hFχ hpχ hEχ => hQ rr χ hIχ (fr_tr r5 hFχ (by decide)) hpχ (e7a.trans hEχ))
      · skip
        have e7b := e4.trans (if_neg q7)
        refine sf_80_108_17 (φ := φ) hI  (fun ψ8 hI8 hF8 hE8 => ⟨rfl, rfl, ?_⟩)
        have hG8 : Fr [18, 19, 20, 21, 22, 23, 24, 25, 109, 111, 112, 113, 114, 115, 116, 117, 118, 120, 121, 122, 123, 124, 125, 126, 127, 129, 130, 131, 132, 133, 134, 135, 136, 138, 139, 140, 141, 142, 143, 144, 145, 147, 148, 149, 150, 151, 152, 153, 154, 156, 157, 158, 159, 160, 161, 162, 163, 165, 166, 167, 168, 169, 170, 171, 172, 174, 175, 176, 177, 178, 179, 180, 181, 18000, 18001, 18002, 18003, 18004, 18005, 109001, 111000, 111001, 111002, 111003, 111004, 111005, 120000, 120001, 120002, 120003, 120004, 120005, 129000, 129001, 129002, 129003, 129004, 129005, 138000, 138001, 138002, 138003, 138004, 138005, 147000, 147001, 147002, 147003, 147004, 147005, 156000, 156001, 156002, 156003, 156004, 156005, 165000, 165001, 165002, 165003, 165004, 165005, 174000, 174001, 174002, 174003, 174004, 174005, 189000] φ ψ8 := fr_tr (fr_rf) hF8 (by decide)
        have e8 := e7b.trans (bnv_e hE8)
        have i6 : Inv (hf_up ψ8 188 0 v2) := iv_upn hI8 (by decide) (by decide) (by decide +kernel)
        have r6 : Fr [18, 19, 20, 21, 22, 23, 24, 25, 109, 111, 112, 113, 114, 115, 116, 117, 118, 120, 121, 122, 123, 124, 125, 126, 127, 129, 130, 131, 132, 133, 134, 135, 136, 138, 139, 140, 141, 142, 143, 144, 145, 147, 148, 149, 150, 151, 152, 153, 154, 156, 157, 158, 159, 160, 161, 162, 163, 165, 166, 167, 168, 169, 170, 171, 172, 174, 175, 176, 177, 178, 179, 180, 181, 18000, 18001, 18002, 18003, 18004, 18005, 109001, 111000, 111001, 111002, 111003, 111004, 111005, 120000, 120001, 120002, 120003, 120004, 120005, 129000, 129001, 129002, 129003, 129004, 129005, 138000, 138001, 138002, 138003, 138004, 138005, 147000, 147001, 147002, 147003, 147004, 147005, 156000, 156001, 156002, 156003, 156004, 156005, 165000, 165001, 165002, 165003, 165004, 165005, 174000, 174001, 174002, 174003, 174004, 174005, 189000] φ (hf_up ψ8 188 0 v2) := fr_up hG8 (by decide)
        exact sf_126_0_l57 ((60 - 0 : Int).toNat + 1) (hf_up ψ8 188 0 v2) (jm_st1 (jm_st1 [(0, (2, 0)), (1, (0, v1)), (2, (0, v2))] 3 (0, if jm_n z4 < jm_n v1 then z4 else v1)) 4 (0, 0)) v1 v2 (if jm_n z4 < jm_n v1 then z4 else v1) 0 (get_st1 (get_st1 rfl (by decide) (fun q => absurd q.1 (by decide))) (by decide) (fun q => absurd q.1 (by decide))) (get_st1 (get_st1 rfl (by decide) (fun q => absurd q.1 (by decide))) (by decide) (fun q => absurd q.1 (by decide))) (get_st1 (get_st1 rfl (by decide) (fun q => tg0 q.2)) (by decide) (fun q => absurd q.1 (by decide))) (get_st1 get_st1e (by decide) (fun q => tg0 q.2)) get_st1e i6 (by omega) (by omega) (by omega) (by omega) (fun rr χ hIχ hFχ hpχ hEχ => hQ rr χ hIχ (fr_tr r6 hFχ (by decide)) hpχ (e8.trans hEχ))
    · skip
      have e3b := e1b.trans (if_neg q3)
      exact hQ (-1 : Int) φ hI (fr_rf) trivial e3b
theorem sf_87_43_v {sc : List Int} {d : Nat} {φ : hf_F} {x : Nat} {Q : Option jm_V → hf_F → Nat → Prop} 
    (H : hi (φ 43 3) ∧ (¬ (φ 43 3) = 0 → Q (some (0, 0)) φ x) ∧ (¬ (¬ (φ 43 3) = 0) → hi (φ 43 1) ∧ hi (-1 : Int) ∧ (¬ (φ 43 1) = (-1 : Int) → Q (some (0, 0)) φ x) ∧ (¬ (¬ (φ 43 1) = (-1 : Int)) → Q (some (0, 1)) φ x))) :
    hw sc d 87 0 [(0, (2, 43))] [] φ x Q := by
  refine hw_ald (b := 0) (e := 0) (by decide +kernel) rfl (by decide) ?_
  refine hr_gi (w := φ 43 3) (b := 4) (e := 3) 43 rfl (by decide +kernel) rfl ?_
  obtain ⟨hz1, ht1, hf1⟩ := H
  refine hw_if (a0 := 0) (b := 1) (e := 19) (by decide +kernel) hz1 (fun q => ?_) (fun q => ?_)
  · have H := ht1 q
    refine hw_k (c := 0) (b := 0) (e := 1) (by decide +kernel) ?_
    exact hw_ret (a0 := 0) (e := 0) (by decide +kernel) (Or.inl rfl) H
  · have H := hf1 q
    refine hw_ald (b := 0) (e := 0) (by decide +kernel) rfl (by decide) ?_
    refine hr_gi (w := φ 43 1) (b := 4) (e := 1) 43 rfl (by decide +kernel) rfl ?_
    refine hw_k (c := (-1 : Int)) (b := 0) (e := 1) (by decide +kernel) ?_
    obtain ⟨hz3, hy3, ht3, hf3⟩ := H
    refine hw_if2 (a0 := 0) (b := 1) (e := 19) (by decide +kernel) hz3 hy3 (fun q => ?_) (fun q => ?_)
    · have H := ht3 q
      refine hw_k (c := 0) (b := 0) (e := 1) (by decide +kernel) ?_
      exact hw_ret (a0 := 0) (e := 0) (by decide +kernel) (Or.inl rfl) H
    · have H := hf3 q
      refine hw_k (c := 1) (b := 0) (e := 1) (by decide +kernel) ?_
      refine hw_goto (a0 := 0) (b := 0) (e := 20) (by decide +kernel) ?_
      exact hw_ret (a0 := 0) (e := 0) (by decide +kernel) (Or.inl rfl) H
theorem sf_87_43 {sc : List Int} {d : Nat} {φ : hf_F} {x : Nat} {Q : Option jm_V → hf_F → Nat → Prop}  (hI : Inv φ)  (hQ : ∀ (r : Int), 0 ≤ r ∧ r ≤ 1 → F_State_whyNotWhistle_43 φ = r → Q (some (0, r)) φ x) : hw sc d 87 0 [(0, (2, 43))] [] φ x Q := by
  apply sf_87_43_v
  have e0 : F_State_whyNotWhistle_43 φ = _ := rfl
  have f1 := iv_at (a := 43) (k := 3) (lo := (-2147483648 : Int)) (u := 2147483647) hI (by decide +kernel)
  refine ⟨by unfold hi; omega, fun q1 => ?_, fun q1 => ?_⟩
  · skip
    have e1a := e0.trans (if_pos q1)
    exact hQ 0 ⟨by omega, by omega⟩ e1a
  · skip
    have e1b := e0.trans (if_neg q1)
    have f2 := iv_at (a := 43) (k := 1) (lo := (-1 : Int)) (u := 7) hI (by decide +kernel)
    refine ⟨by unfold hi; omega, by unfold hi; omega, fun q3 => ?_, fun q3 => ?_⟩
    · skip
      have e3a := e1b.trans (if_pos q3)
      exact hQ 0 ⟨by omega, by omega⟩ e3a
    · skip
      have e3b := e1b.trans (if_neg q3)
      exact hQ 1 ⟨by omega, by omega⟩ e3b
theorem sf_88_43_v {sc : List Int} {d : Nat} {φ : hf_F} {x : Nat} {Q : Option jm_V → hf_F → Nat → Prop} 
    (H : hw sc d 12 0 [(0, (2, 49)), (1, (0, 0))] [] (hf_up (hf_up (hf_up φ 43 3 0) 43 1 (-1 : Int)) 43 2 (-1 : Int)) x (fun r ψ1 y1 => y1 = x ∧ (r = none ∧ (Q none (hf_up ψ1 43 5 ((ψ1 43 5) + 1)) x)))) :
    hw sc (d + 1) 88 0 [(0, (2, 43))] [] φ x Q := by
  refine hw_ald (b := 0) (e := 0) (by decide +kernel) rfl (by decide) ?_
  refine hw_k (c := 0) (b := 0) (e := 1) (by decide +kernel) ?_
  refine hr_pi (b := 4) (e := 3) 43 rfl (by decide +kernel) ?_
  refine hw_ald (b := 0) (e := 0) (by decide +kernel) rfl (by decide) ?_
  refine hw_k (c := (-1 : Int)) (b := 0) (e := 1) (by decide +kernel) ?_
  refine hr_pi (b := 4) (e := 1) 43 rfl (by decide +kernel) ?_
  refine hw_ald (b := 0) (e := 0) (by decide +kernel) rfl (by decide) ?_
  refine hw_k (c := (-1 : Int)) (b := 0) (e := 1) (by decide +kernel) ?_
  refine hr_pi (b := 4) (e := 2) 43 rfl (by decide +kernel) ?_
  refine hw_ald (b := 0) (e := 0) (by decide +kernel) rfl (by decide) ?_
  refine hr_gr (w := 49) (b := 4) (e := 11) 43 rfl (by decide +kernel) ?_
  refine hw_k (c := 0) (b := 0) (e := 1) (by decide +kernel) ?_
  refine hr_calls (b := 12) (e := 2) (nl := 4) (As := [(2, 49), (0, 0)]) (R := []) (by decide +kernel) rfl rfl (Nat.le_of_ble_eq_true rfl) (Nat.le_of_ble_eq_true rfl) ?_
  refine hw_mono H ?_
  rintro r ψ1 y1 ⟨hyx, hr, H⟩
  subst hyx
  subst hr
  refine ⟨hnen, ?_⟩
  show hw sc (d + 1) 88 23 [(0, (2, 43))] [] ψ1 y1 Q
  refine hw_ald (b := 0) (e := 0) (by decide +kernel) rfl (by decide) ?_
  refine hw_dup (a0 := 0) (e := 0) (by decide +kernel) (by decide) ?_
  refine hr_gi (w := ψ1 43 5) (b := 4) (e := 5) 43 rfl (by decide +kernel) rfl ?_
  refine hw_k (c := 1) (b := 0) (e := 1) (by decide +kernel) ?_
  refine hw_bin (w := (ψ1 43 5) + 1) (a0 := 0) (b := 0) (e := 0) (by decide +kernel) rfl ?_
  refine hr_pi (b := 4) (e := 5) 43 rfl (by decide +kernel) ?_
  exact hw_vret (a0 := 0) (e := 0) (by decide +kernel) H
theorem sf_88_43 {sc : List Int} {d : Nat} {φ : hf_F} {x : Nat} {Q : Option jm_V → hf_F → Nat → Prop}  (hI : Inv φ)  (hQ : ∀ ψ : hf_F, Inv ψ → Fr [49, 44001, 44002, 44003, 44005] φ ψ → F_State_blow_43 φ = ψ → Q none ψ x) : hw sc (d + 1) 88 0 [(0, (2, 43))] [] φ x Q := by
  apply sf_88_43_v
  have e0 : F_State_blow_43 φ = _ := rfl
  have i1 : Inv (hf_up φ 43 3 0) := iv_up (lo := (-2147483648 : Int)) (u := 2147483647) hI (by decide +kernel) (by omega) (by omega)
  have r1 : Fr [49, 44001, 44002, 44003, 44005] φ (hf_up φ 43 3 0) := fr_up (fr_rf) (by decide)
  have i2 : Inv (hf_up (hf_up φ 43 3 0) 43 1 (-1 : Int)) := iv_up (lo := (-1 : Int)) (u := 7) i1 (by decide +kernel) (by omega) (by omega)
  have r2 : Fr [49, 44001, 44002, 44003, 44005] φ (hf_up (hf_up φ 43 3 0) 43 1 (-1 : Int)) := fr_up r1 (by decide)
  have i3 : Inv (hf_up (hf_up (hf_up φ 43 3 0) 43 1 (-1 : Int)) 43 2 (-1 : Int)) := iv_up (lo := (-1 : Int)) (u := 5) i2 (by decide +kernel) (by omega) (by omega)
  have r3 : Fr [49, 44001, 44002, 44003, 44005] φ (hf_up (hf_up (hf_up φ 43 3 0) 43 1 (-1 : Int)) 43 2 (-1 : Int)) := fr_up r2 (by decide)
  refine sf_12_49_k1_0 (φ := (hf_up (hf_up (hf_up φ 43 3 0) 43 1 (-1 : Int)) 43 2 (-1 : Int))) i3  (fun ψ1 hI1 hF1 hE1 => ⟨rfl, rfl, ?_⟩)
  have hG1 : Fr [49, 44001, 44002, 44003, 44005] φ ψ1 := fr_tr r3 hF1 (by decide)
  have e1 := e0.trans (bnv_e hE1)
  have f4 : ψ1 43 5 = φ 43 5 := (fr_fd hF1 43 5 (by decide)).trans ((hf_up_ne (fun q => absurd q.2 (by decide))).trans ((hf_up_ne (fun q => absurd q.2 (by decide))).trans (hf_up_ne (fun q => absurd q.2 (by decide)))))
  have i5 : Inv (hf_up ψ1 43 5 ((ψ1 43 5) + 1)) := iv_upn hI1 (by decide) (by decide) (by decide +kernel)
  have r5 : Fr [49, 44001, 44002, 44003, 44005] φ (hf_up ψ1 43 5 ((ψ1 43 5) + 1)) := fr_up hG1 (by decide)
  exact hQ (hf_up ψ1 43 5 ((ψ1 43 5) + 1)) i5 r5 e1
theorem sf_83_43_v {sc : List Int} {d : Nat} {φ : hf_F} {x : Nat} {Q : Option jm_V → hf_F → Nat → Prop} {v1 : Int}
    (H : 0 ≤ v1 ∧ v1 < 6 ∧ (hi (φ 46 ((v1).toNat)) ∧ hi (-1 : Int) ∧ (¬ (φ 46 ((v1).toNat)) = (-1 : Int) → Q (some (0, 0)) φ x) ∧ (¬ (¬ (φ 46 ((v1).toNat)) = (-1 : Int)) → Q (some (0, 1)) φ x))) :
    hw sc d 83 0 [(0, (2, 43)), (1, (0, v1))] [] φ x Q := by
  refine hw_ald (b := 0) (e := 0) (by decide +kernel) rfl (by decide) ?_
  refine hr_gr (w := 46) (b := 4) (e := 8) 43 rfl (by decide +kernel) ?_
  refine hw_ld (b := 1) (e := 0) (by decide +kernel) rfl ?_
  obtain ⟨hl1, hu1, H⟩ := H
  refine hr_al (b := 0) (a0 := 0) (e := 0) (n := 6) (w := φ 46 ((v1).toNat)) 46 rfl (by decide +kernel) (by decide) hl1 hu1 rfl ?_
  refine hw_k (c := (-1 : Int)) (b := 0) (e := 1) (by decide +kernel) ?_
  obtain ⟨hz2, hy2, ht2, hf2⟩ := H
  refine hw_if2 (a0 := 0) (b := 1) (e := 14) (by decide +kernel) hz2 hy2 (fun q => ?_) (fun q => ?_)
  · have H := ht2 q
    refine hw_k (c := 0) (b := 0) (e := 1) (by decide +kernel) ?_
    exact hw_ret (a0 := 0) (e := 0) (by decide +kernel) (Or.inl rfl) H
  · have H := hf2 q
    refine hw_k (c := 1) (b := 0) (e := 1) (by decide +kernel) ?_
    refine hw_goto (a0 := 0) (b := 0) (e := 15) (by decide +kernel) ?_
    exact hw_ret (a0 := 0) (e := 0) (by decide +kernel) (Or.inl rfl) H
theorem sf_83_43 {sc : List Int} {d : Nat} {φ : hf_F} {x : Nat} {Q : Option jm_V → hf_F → Nat → Prop} {v1 : Int} (hI : Inv φ) (h1a : 0 ≤ v1) (h1b : v1 ≤ 5) (hQ : ∀ (r : Int), 0 ≤ r ∧ r ≤ 1 → F_State_whyNotAlight_43 φ v1 = r → Q (some (0, r)) φ x) : hw sc d 83 0 [(0, (2, 43)), (1, (0, v1))] [] φ x Q := by
  apply sf_83_43_v
  have e0 : F_State_whyNotAlight_43 φ v1 = _ := rfl
  refine ⟨by omega, by omega, ?_⟩
  have f1 := iv_ar (a := 46) (s := 0) (t := 6) (lo := (-1 : Int)) (u := 7) (z := v1) hI (by decide +kernel) (by omega) (by omega)
  refine ⟨by unfold hi; omega, by unfold hi; omega, fun q2 => ?_, fun q2 => ?_⟩
  · skip
    have e2a := e0.trans (if_pos q2)
    exact hQ 0 ⟨by omega, by omega⟩ e2a
  · skip
    have e2b := e0.trans (if_neg q2)
    exact hQ 1 ⟨by omega, by omega⟩ e2b
theorem sf_79_43_v {sc : List Int} {d : Nat} {φ : hf_F} {x : Nat} {Q : Option jm_V → hf_F → Nat → Prop} {v1 v2 : Int}
    (H : 0 ≤ v1 ∧ v1 < 6 ∧ (hi (φ 46 ((v1).toNat)) ∧ hi (-1 : Int) ∧ ((φ 46 ((v1).toNat)) = (-1 : Int) → 0 ≤ v2 ∧ v2 < 8 ∧ (hi (φ 45 ((v2).toNat)) ∧ hi (-1 : Int) ∧ ((φ 45 ((v2).toNat)) = (-1 : Int) → Q (some (0, 0)) φ x) ∧ (¬ (φ 45 ((v2).toNat)) = (-1 : Int) → Q (some (0, 2)) φ x))) ∧ (¬ (φ 46 ((v1).toNat)) = (-1 : Int) → Q (some (0, 1)) φ x))) :
    hw sc d 79 0 [(0, (2, 43)), (1, (0, v1)), (2, (0, v2))] [] φ x Q := by
  refine hw_ald (b := 0) (e := 0) (by decide +kernel) rfl (by decide) ?_
  refine hr_gr (w := 46) (b := 4) (e := 8) 43 rfl (by decide +kernel) ?_
  refine hw_ld (b := 1) (e := 0) (by decide +kernel) rfl ?_
  obtain ⟨hl1, hu1, H⟩ := H
  refine hr_al (b := 0) (a0 := 0) (e := 0) (n := 6) (w := φ 46 ((v1).toNat)) 46 rfl (by decide +kernel) (by decide) hl1 hu1 rfl ?_
  refine hw_k (c := (-1 : Int)) (b := 0) (e := 1) (by decide +kernel) ?_
  obtain ⟨hz2, hy2, ht2, hf2⟩ := H
  refine hw_if2 (a0 := 0) (b := 0) (e := 12) (by decide +kernel) hz2 hy2 (fun q => ?_) (fun q => ?_)
  · have H := ht2 q
    refine hw_ald (b := 0) (e := 0) (by decide +kernel) rfl (by decide) ?_
    refine hr_gr (w := 45) (b := 4) (e := 7) 43 rfl (by decide +kernel) ?_
    refine hw_ld (b := 2) (e := 0) (by decide +kernel) rfl ?_
    obtain ⟨hl3, hu3, H⟩ := H
    refine hr_al (b := 0) (a0 := 0) (e := 0) (n := 8) (w := φ 45 ((v2).toNat)) 45 rfl (by decide +kernel) (by decide) hl3 hu3 rfl ?_
    refine hw_k (c := (-1 : Int)) (b := 0) (e := 1) (by decide +kernel) ?_
    obtain ⟨hz4, hy4, ht4, hf4⟩ := H
    refine hw_if2 (a0 := 0) (b := 0) (e := 26) (by decide +kernel) hz4 hy4 (fun q => ?_) (fun q => ?_)
    · have H := ht4 q
      refine hw_k (c := 0) (b := 0) (e := 1) (by decide +kernel) ?_
      exact hw_ret (a0 := 0) (e := 0) (by decide +kernel) (Or.inl rfl) H
    · have H := hf4 q
      refine hw_k (c := 2) (b := 0) (e := 1) (by decide +kernel) ?_
      refine hw_goto (a0 := 0) (b := 0) (e := 27) (by decide +kernel) ?_
      exact hw_ret (a0 := 0) (e := 0) (by decide +kernel) (Or.inl rfl) H
  · have H := hf2 q
    refine hw_k (c := 1) (b := 0) (e := 1) (by decide +kernel) ?_
    exact hw_ret (a0 := 0) (e := 0) (by decide +kernel) (Or.inl rfl) H
theorem sf_79_43 {sc : List Int} {d : Nat} {φ : hf_F} {x : Nat} {Q : Option jm_V → hf_F → Nat → Prop} {v1 v2 : Int} (hI : Inv φ) (h1a : 0 ≤ v1) (h1b : v1 ≤ 5) (h2a : 0 ≤ v2) (h2b : v2 ≤ 7) (hQ : ∀ (r : Int), 0 ≤ r ∧ r ≤ 2 → F_State_whyNotMount_43 φ v1 v2 = r → Q (some (0, r)) φ x) : hw sc d 79 0 [(0, (2, 43)), (1, (0, v1)), (2, (0, v2))] [] φ x Q := by
  apply sf_79_43_v
  have e0 : F_State_whyNotMount_43 φ v1 v2 = _ := rfl
  refine ⟨by omega, by omega, ?_⟩
  have f1 := iv_ar (a := 46) (s := 0) (t := 6) (lo := (-1 : Int)) (u := 7) (z := v1) hI (by decide +kernel) (by omega) (by omega)
  refine ⟨by unfold hi; omega, by unfold hi; omega, fun q2 => ?_, fun q2 => ?_⟩
  · skip
    have e2a := e0.trans (if_pos q2)
    refine ⟨by omega, by omega, ?_⟩
    have f2 := iv_ar (a := 45) (s := 0) (t := 8) (lo := (-1 : Int)) (u := 5) (z := v2) hI (by decide +kernel) (by omega) (by omega)
    refine ⟨by unfold hi; omega, by unfold hi; omega, fun q4 => ?_, fun q4 => ?_⟩
    · skip
      have e4a := e2a.trans (if_pos q4)
      exact hQ 0 ⟨by omega, by omega⟩ e4a
    · skip
      have e4b := e2a.trans (if_neg q4)
      exact hQ 2 ⟨by omega, by omega⟩ e4b
  · skip
    have e2b := e0.trans (if_neg q2)
    exact hQ 1 ⟨by omega, by omega⟩ e2b
theorem sf_84_43_v {sc : List Int} {d : Nat} {φ : hf_F} {x : Nat} {Q : Option jm_V → hf_F → Nat → Prop} {v1 : Int}
    (H : 0 ≤ v1 ∧ v1 < 6 ∧ (hi (φ 46 ((v1).toNat)) ∧ hi (-1 : Int) ∧ ((φ 46 ((v1).toNat)) = (-1 : Int) → 0 ≤ v1 ∧ v1 < 6 ∧ (Q none (hf_up φ 46 ((v1).toNat) (-1 : Int)) x)) ∧ (¬ (φ 46 ((v1).toNat)) = (-1 : Int) → 0 ≤ (φ 46 ((v1).toNat)) ∧ (φ 46 ((v1).toNat)) < 8 ∧ (0 ≤ v1 ∧ v1 < 6 ∧ (Q none (hf_up (hf_up φ 45 ((φ 46 ((v1).toNat)).toNat) (-1 : Int)) 46 ((v1).toNat) (-1 : Int)) x))))) :
    hw sc d 84 0 [(0, (2, 43)), (1, (0, v1))] [] φ x Q := by
  refine hw_ald (b := 0) (e := 0) (by decide +kernel) rfl (by decide) ?_
  refine hr_gr (w := 46) (b := 4) (e := 8) 43 rfl (by decide +kernel) ?_
  refine hw_ld (b := 1) (e := 0) (by decide +kernel) rfl ?_
  obtain ⟨hl1, hu1, H⟩ := H
  refine hr_al (b := 0) (a0 := 0) (e := 0) (n := 6) (w := φ 46 ((v1).toNat)) 46 rfl (by decide +kernel) (by decide) hl1 hu1 rfl ?_
  refine hw_st (L' := (jm_st1 [(0, (2, 43)), (1, (0, v1))] 2 (0, φ 46 ((v1).toNat)))) (b := 2) (e := 0) (by decide +kernel) rfl ?_
  refine hw_ld (b := 2) (e := 0) (by decide +kernel) get_st1e ?_
  refine hw_k (c := (-1 : Int)) (b := 0) (e := 1) (by decide +kernel) ?_
  obtain ⟨hz2, hy2, ht2, hf2⟩ := H
  refine hw_if2 (a0 := 0) (b := 0) (e := 19) (by decide +kernel) hz2 hy2 (fun q => ?_) (fun q => ?_)
  · have H := ht2 q
    refine hw_ald (b := 0) (e := 0) (by decide +kernel) (get_st1 rfl (by decide) (fun q => absurd q.1 (by decide))) (by decide) ?_
    refine hr_gr (w := 46) (b := 4) (e := 8) 43 rfl (by decide +kernel) ?_
    refine hw_ld (b := 1) (e := 0) (by decide +kernel) (get_st1 rfl (by decide) (fun q => tg0 q.2)) ?_
    refine hw_k (c := (-1 : Int)) (b := 0) (e := 1) (by decide +kernel) ?_
    obtain ⟨hl3, hu3, H⟩ := H
    refine hr_as (a0 := 0) (e := 4) (n := 6) 46 rfl (by decide +kernel) hl3 hu3 ?_
    exact hw_vret (a0 := 0) (e := 0) (by decide +kernel) H
  · have H := hf2 q
    refine hw_ald (b := 0) (e := 0) (by decide +kernel) (get_st1 rfl (by decide) (fun q => absurd q.1 (by decide))) (by decide) ?_
    refine hr_gr (w := 45) (b := 4) (e := 7) 43 rfl (by decide +kernel) ?_
    refine hw_ld (b := 2) (e := 0) (by decide +kernel) get_st1e ?_
    refine hw_k (c := (-1 : Int)) (b := 0) (e := 1) (by decide +kernel) ?_
    obtain ⟨hl5, hu5, H⟩ := H
    refine hr_as (a0 := 0) (e := 4) (n := 8) 45 rfl (by decide +kernel) hl5 hu5 ?_
    refine hw_ald (b := 0) (e := 0) (by decide +kernel) (get_st1 rfl (by decide) (fun q => absurd q.1 (by decide))) (by decide) ?_
    refine hr_gr (w := 46) (b := 4) (e := 8) 43 rfl (by decide +kernel) ?_
    refine hw_ld (b := 1) (e := 0) (by decide +kernel) (get_st1 rfl (by decide) (fun q => tg0 q.2)) ?_
    refine hw_k (c := (-1 : Int)) (b := 0) (e := 1) (by decide +kernel) ?_
    obtain ⟨hl6, hu6, H⟩ := H
    refine hr_as (a0 := 0) (e := 4) (n := 6) 46 rfl (by decide +kernel) hl6 hu6 ?_
    exact hw_vret (a0 := 0) (e := 0) (by decide +kernel) H
theorem sf_84_43 {sc : List Int} {d : Nat} {φ : hf_F} {x : Nat} {Q : Option jm_V → hf_F → Nat → Prop} {v1 : Int} (hI : Inv φ) (h1a : 0 ≤ v1) (h1b : v1 ≤ 5) (hQ : ∀ ψ : hf_F, Inv ψ → Fr [45, 46] φ ψ → F_State_getOff_43 φ v1 = ψ → Q none ψ x) : hw sc d 84 0 [(0, (2, 43)), (1, (0, v1))] [] φ x Q := by
  apply sf_84_43_v
  have e0 : F_State_getOff_43 φ v1 = _ := rfl
  refine ⟨by omega, by omega, ?_⟩
  have f1 := iv_ar (a := 46) (s := 0) (t := 6) (lo := (-1 : Int)) (u := 7) (z := v1) hI (by decide +kernel) (by omega) (by omega)
  refine ⟨by unfold hi; omega, by unfold hi; omega, fun q2 => ?_, fun q2 => ?_⟩
  · skip
    have e2a := e0.trans (if_pos q2)
    refine ⟨by omega, by omega, ?_⟩
    have i2 : Inv (hf_up φ 46 ((v1).toNat) (-1 : Int)) := iv_upI (s := 0) (t := 6) (lo := (-1 : Int)) (u := 7) (z := v1) hI (by decide +kernel) (by omega) (by omega) (by omega) (by omega)
    have r2 : Fr [45, 46] φ (hf_up φ 46 ((v1).toNat) (-1 : Int)) := fr_upa (fr_rf) (by decide)
    exact hQ (hf_up φ 46 ((v1).toNat) (-1 : Int)) i2 r2 e2a
  · skip
    have e2b := e0.trans (if_neg q2)
    refine ⟨by omega, by omega, ?_⟩
    have i3 : Inv (hf_up φ 45 ((φ 46 ((v1).toNat)).toNat) (-1 : Int)) := iv_upI (s := 0) (t := 8) (lo := (-1 : Int)) (u := 5) (z := φ 46 ((v1).toNat)) hI (by decide +kernel) (by omega) (by omega) (by omega) (by omega)
    have r3 : Fr [45, 46] φ (hf_up φ 45 ((φ 46 ((v1).toNat)).toNat) (-1 : Int)) := fr_upa (fr_rf) (by decide)
    refine ⟨by omega, by omega, ?_⟩
    have i4 : Inv (hf_up (hf_up φ 45 ((φ 46 ((v1).toNat)).toNat) (-1 : Int)) 46 ((v1).toNat) (-1 : Int)) := iv_upI (s := 0) (t := 6) (lo := (-1 : Int)) (u := 7) (z := v1) i3 (by decide +kernel) (by omega) (by omega) (by omega) (by omega)
    have r4 : Fr [45, 46] φ (hf_up (hf_up φ 45 ((φ 46 ((v1).toNat)).toNat) (-1 : Int)) 46 ((v1).toNat) (-1 : Int)) := fr_upa r3 (by decide)
    exact hQ (hf_up (hf_up φ 45 ((φ 46 ((v1).toNat)).toNat) (-1 : Int)) 46 ((v1).toNat) (-1 : Int)) i4 r4 e2b
theorem sf_129_43_v {sc : List Int} {d : Nat} {φ : hf_F} {x : Nat} {Q : Option jm_V → hf_F → Nat → Prop} {v1 v2 : Int}
    (H : hw sc d 83 0 [(0, (2, 43)), (1, (0, v1))] [] φ x (fun r ψ1 y1 => y1 = x ∧ φ = ψ1 ∧ (∃ z1 : Int, r = some (0, z1) ∧ (hi z1 ∧ (¬ z1 = 0 → hw sc d 79 0 [(0, (2, 43)), (1, (0, v1)), (2, (0, v2))] [] φ x (fun r ψ3 y3 => y3 = x ∧ φ = ψ3 ∧ (∃ z3 : Int, r = some (0, z3) ∧ (hi z3 ∧ (¬ z3 = 0 → Q none φ x) ∧ (¬ (¬ z3 = 0) → hw sc d 52 0 [(0, (2, 43)), (1, (0, v1)), (2, (0, v2))] [] φ x (fun r ψ6 y6 => y6 = x ∧ (r = none ∧ (Q none ψ6 x)))))))) ∧ (¬ (¬ z1 = 0) → hw sc d 84 0 [(0, (2, 43)), (1, (0, v1))] [] φ x (fun r ψ8 y8 => y8 = x ∧ (r = none ∧ (Q none ψ8 x)))))))) :
    hw sc (d + 1) 129 0 [(0, (2, 43)), (1, (0, v1)), (2, (0, v2))] [] φ x Q := by
  refine hw_ald (b := 0) (e := 0) (by decide +kernel) rfl (by decide) ?_
  refine hw_ld (b := 1) (e := 0) (by decide +kernel) rfl ?_
  refine hr_call (a0 := 14) (b := 83) (e := 2) (nl := 2) (As := [(0, v1)]) (R := []) 43 rfl (by decide +kernel) rfl rfl (Nat.le_of_ble_eq_true rfl) (Nat.le_of_ble_eq_true rfl) ?_
  refine hw_mono H ?_
  rintro r ψ1 y1 ⟨hyx, hψx, z1, hr, H⟩
  subst hyx
  subst hψx
  subst hr
  refine ⟨hne0, ?_⟩
  show hw sc (d + 1) 129 5 [(0, (2, 43)), (1, (0, v1)), (2, (0, v2))] [(0, z1)] φ y1 Q
  obtain ⟨hz2, ht2, hf2⟩ := H
  refine hw_if (a0 := 0) (b := 1) (e := 16) (by decide +kernel) hz2 (fun q => ?_) (fun q => ?_)
  · have H := ht2 q
    refine hw_ald (b := 0) (e := 0) (by decide +kernel) rfl (by decide) ?_
    refine hw_ld (b := 1) (e := 0) (by decide +kernel) rfl ?_
    refine hw_ld (b := 2) (e := 0) (by decide +kernel) rfl ?_
    refine hr_call (a0 := 14) (b := 79) (e := 3) (nl := 3) (As := [(0, v1), (0, v2)]) (R := []) 43 rfl (by decide +kernel) rfl rfl (Nat.le_of_ble_eq_true rfl) (Nat.le_of_ble_eq_true rfl) ?_
    refine hw_mono H ?_
    rintro r ψ3 y3 ⟨hyx, hψx, z3, hr, H⟩
    subst hyx
    subst hψx
    subst hr
    refine ⟨hne0, ?_⟩
    show hw sc (d + 1) 129 22 [(0, (2, 43)), (1, (0, v1)), (2, (0, v2))] [(0, z3)] φ y3 Q
    obtain ⟨hz4, ht4, hf4⟩ := H
    refine hw_if (a0 := 0) (b := 1) (e := 31) (by decide +kernel) hz4 (fun q => ?_) (fun q => ?_)
    · have H := ht4 q
      exact hw_vret (a0 := 0) (e := 0) (by decide +kernel) H
    · have H := hf4 q
      refine hw_ald (b := 0) (e := 0) (by decide +kernel) rfl (by decide) ?_
      refine hw_ld (b := 1) (e := 0) (by decide +kernel) rfl ?_
      refine hw_ld (b := 2) (e := 0) (by decide +kernel) rfl ?_
      refine hr_call (a0 := 14) (b := 52) (e := 3) (nl := 3) (As := [(0, v1), (0, v2)]) (R := []) 43 rfl (by decide +kernel) rfl rfl (Nat.le_of_ble_eq_true rfl) (Nat.le_of_ble_eq_true rfl) ?_
      refine hw_mono H ?_
      rintro r ψ6 y6 ⟨hyx, hr, H⟩
      subst hyx
      subst hr
      refine ⟨hnen, ?_⟩
      show hw sc (d + 1) 129 31 [(0, (2, 43)), (1, (0, v1)), (2, (0, v2))] [] ψ6 y6 Q
      exact hw_vret (a0 := 0) (e := 0) (by decide +kernel) H
  · have H := hf2 q
    refine hw_ald (b := 0) (e := 0) (by decide +kernel) rfl (by decide) ?_
    refine hw_ld (b := 1) (e := 0) (by decide +kernel) rfl ?_
    refine hr_call (a0 := 14) (b := 84) (e := 2) (nl := 3) (As := [(0, v1)]) (R := []) 43 rfl (by decide +kernel) rfl rfl (Nat.le_of_ble_eq_true rfl) (Nat.le_of_ble_eq_true rfl) ?_
    refine hw_mono H ?_
    rintro r ψ8 y8 ⟨hyx, hr, H⟩
    subst hyx
    subst hr
    refine ⟨hnen, ?_⟩
    show hw sc (d + 1) 129 13 [(0, (2, 43)), (1, (0, v1)), (2, (0, v2))] [] ψ8 y8 Q
    refine hw_goto (a0 := 0) (b := 0) (e := 31) (by decide +kernel) ?_
    exact hw_vret (a0 := 0) (e := 0) (by decide +kernel) H
theorem sf_129_43 {sc : List Int} {d : Nat} {φ : hf_F} {x : Nat} {Q : Option jm_V → hf_F → Nat → Prop} {v1 v2 : Int} (hI : Inv φ) (h1a : 0 ≤ v1) (h1b : v1 ≤ 5) (h2a : 0 ≤ v2) (h2b : v2 ≤ 7) (hQ : ∀ ψ : hf_F, Inv ψ → Fr [45, 46] φ ψ → F_State_mountOrAlight_43 φ v1 v2 = ψ → Q none ψ x) : hw sc (d + 1) 129 0 [(0, (2, 43)), (1, (0, v1)), (2, (0, v2))] [] φ x Q := by
  apply sf_129_43_v
  have e0 : F_State_mountOrAlight_43 φ v1 v2 = _ := rfl
  refine sf_83_43 (φ := φ) hI (by omega) (by omega) (fun z1 hp1 hE1 => ⟨rfl, rfl, z1, rfl, ?_⟩)
  have e1 := e0.trans (bnp_e hE1)
  refine ⟨by unfold hi; omega, fun q2 => ?_, fun q2 => ?_⟩
  · skip
    have e2a := e1.trans (if_pos q2)
    refine sf_79_43 (φ := φ) hI (by omega) (by omega) (by omega) (by omega) (fun z3 hp3 hE3 => ⟨rfl, rfl, z3, rfl, ?_⟩)
    have e3 := e2a.trans (bnp_e hE3)
    refine ⟨by unfold hi; omega, fun q4 => ?_, fun q4 => ?_⟩
    · skip
      have e4a := e3.trans (if_pos q4)
      exact hQ φ hI (fr_rf) e4a
    · skip
      have e4b := e3.trans (if_neg q4)
      refine sf_52_43 (φ := φ) hI (by omega) (by omega) (by omega) (by omega) (fun ψ6 hI6 hF6 hE6 => ⟨rfl, rfl, ?_⟩)
      have hG6 : Fr [45, 46] φ ψ6 := fr_tr (fr_rf) hF6 (by decide)
      have e6 := e4b.trans (bnv_e hE6)
      exact hQ ψ6 hI6 hG6 e6
  · skip
    have e2b := e1.trans (if_neg q2)
    refine sf_84_43 (φ := φ) hI (by omega) (by omega) (fun ψ8 hI8 hF8 hE8 => ⟨rfl, rfl, ?_⟩)
    have hG8 : Fr [45, 46] φ ψ8 := fr_tr (fr_rf) hF8 (by decide)
    have e8 := e2b.trans (bnv_e hE8)
    exact hQ ψ8 hI8 hG8 e8
theorem sf_127_43_5_188_v {sc : List Int} {d : Nat} {φ : hf_F} {x : Nat} {Q : Option jm_V → hf_F → Nat → Prop} 
    (H : hw sc (d + 2) 128 0 [(0, (2, 188)), (1, (0, 12))] [] φ x (fun r ψ1 y1 => y1 = x ∧ (∃ z1 : Int, r = some (0, z1) ∧ (hi z1 ∧ (¬ z1 = 0 → hi z1 ∧ hi 1 ∧ (¬ z1 = 1 → hi z1 ∧ hi 2 ∧ (¬ z1 = 2 → hw sc (d + 2) 91 0 [(0, (2, 43)), (1, (2, 5))] [] ψ1 x (fun r ψ5 y5 => y5 = x ∧ (r = none ∧ (Q none ψ5 x)))) ∧ (¬ (¬ z1 = 2) → hw sc (d + 2) 87 0 [(0, (2, 43))] [] ψ1 x (fun r ψ7 y7 => y7 = x ∧ ψ1 = ψ7 ∧ (∃ z7 : Int, r = some (0, z7) ∧ (hi z7 ∧ (¬ z7 = 0 → hw sc (d + 2) 91 0 [(0, (2, 43)), (1, (2, 5))] [] ψ1 x (fun r ψ9 y9 => y9 = x ∧ (r = none ∧ (Q none ψ9 x)))) ∧ (¬ (¬ z7 = 0) → hw sc (d + 2) 88 0 [(0, (2, 43))] [] ψ1 x (fun r ψ11 y11 => y11 = x ∧ (r = none ∧ (hw sc (d + 2) 91 0 [(0, (2, 43)), (1, (2, 5))] [] ψ11 x (fun r ψ12 y12 => y12 = x ∧ (r = none ∧ (Q none ψ12 x)))))))))))) ∧ (¬ (¬ z1 = 1) → hi (φ 6 3) ∧ ((φ 6 3) ≤ 0 → hi z1 ∧ hi 2 ∧ (¬ z1 = 2 → hw sc (d + 2) 91 0 [(0, (2, 43)), (1, (2, 5))] [] ψ1 x (fun r ψ16 y16 => y16 = x ∧ (r = none ∧ (Q none ψ16 x)))) ∧ (¬ (¬ z1 = 2) → hw sc (d + 2) 87 0 [(0, (2, 43))] [] ψ1 x (fun r ψ18 y18 => y18 = x ∧ ψ1 = ψ18 ∧ (∃ z18 : Int, r = some (0, z18) ∧ (hi z18 ∧ (¬ z18 = 0 → hw sc (d + 2) 91 0 [(0, (2, 43)), (1, (2, 5))] [] ψ1 x (fun r ψ20 y20 => y20 = x ∧ (r = none ∧ (Q none ψ20 x)))) ∧ (¬ (¬ z18 = 0) → hw sc (d + 2) 88 0 [(0, (2, 43))] [] ψ1 x (fun r ψ22 y22 => y22 = x ∧ (r = none ∧ (hw sc (d + 2) 91 0 [(0, (2, 43)), (1, (2, 5))] [] ψ22 x (fun r ψ23 y23 => y23 = x ∧ (r = none ∧ (Q none ψ23 x)))))))))))) ∧ (¬ (φ 6 3) ≤ 0 → hi (φ 6 2) ∧ ((φ 6 2) ≤ 0 → hi z1 ∧ hi 2 ∧ (¬ z1 = 2 → hw sc (d + 2) 91 0 [(0, (2, 43)), (1, (2, 5))] [] ψ1 x (fun r ψ27 y27 => y27 = x ∧ (r = none ∧ (Q none ψ27 x)))) ∧ (¬ (¬ z1 = 2) → hw sc (d + 2) 87 0 [(0, (2, 43))] [] ψ1 x (fun r ψ29 y29 => y29 = x ∧ ψ1 = ψ29 ∧ (∃ z29 : Int, r = some (0, z29) ∧ (hi z29 ∧ (¬ z29 = 0 → hw sc (d + 2) 91 0 [(0, (2, 43)), (1, (2, 5))] [] ψ1 x (fun r ψ31 y31 => y31 = x ∧ (r = none ∧ (Q none ψ31 x)))) ∧ (¬ (¬ z29 = 0) → hw sc (d + 2) 88 0 [(0, (2, 43))] [] ψ1 x (fun r ψ33 y33 => y33 = x ∧ (r = none ∧ (hw sc (d + 2) 91 0 [(0, (2, 43)), (1, (2, 5))] [] ψ33 x (fun r ψ34 y34 => y34 = x ∧ (r = none ∧ (Q none ψ34 x)))))))))))) ∧ (¬ (φ 6 2) ≤ 0 → hw sc (d + 2) 128 0 [(0, (2, 188)), (1, (0, φ 6 3))] [] ψ1 x (fun r ψ36 y36 => y36 = x ∧ (∃ z36 : Int, r = some (0, z36) ∧ (hw sc (d + 2) 128 0 [(0, (2, 188)), (1, (0, φ 6 2))] [] ψ36 x (fun r ψ37 y37 => y37 = x ∧ (∃ z37 : Int, r = some (0, z37) ∧ (hw sc (d + 2) 54 0 [(0, (2, 43)), (1, (0, z36))] [] ψ37 x (fun r ψ38 y38 => y38 = x ∧ ψ37 = ψ38 ∧ (∃ z38 : Int, r = some (0, z38) ∧ (hi z38 ∧ (¬ z38 = 0 → hw sc (d + 2) 91 0 [(0, (2, 43)), (1, (2, 5))] [] ψ37 x (fun r ψ40 y40 => y40 = x ∧ (r = none ∧ (Q none ψ40 x)))) ∧ (¬ (¬ z38 = 0) → hw sc (d + 2) 55 0 [(0, (2, 43)), (1, (0, z36)), (2, (0, z37))] [] ψ37 x (fun r ψ42 y42 => y42 = x ∧ (r = none ∧ (hw sc (d + 2) 91 0 [(0, (2, 43)), (1, (2, 5))] [] ψ42 x (fun r ψ43 y43 => y43 = x ∧ (r = none ∧ (Q none ψ43 x)))))))))))))))))))) ∧ (¬ (¬ z1 = 0) → hi (φ 6 3) ∧ ((φ 6 3) ≤ 0 → hi z1 ∧ hi 1 ∧ (¬ z1 = 1 → hi z1 ∧ hi 2 ∧ (¬ z1 = 2 → hw sc (d + 2) 91 0 [(0, (2, 43)), (1, (2, 5))] [] ψ1 x (fun r ψ48 y48 => y48 = x ∧ (r = none ∧ (Q none ψ48 x)))) ∧ (¬ (¬ z1 = 2) → hw sc (d + 2) 87 0 [(0, (2, 43))] [] ψ1 x (fun r ψ50 y50 => y50 = x ∧ ψ1 = ψ50 ∧ (∃ z50 : Int, r = some (0, z50) ∧ (hi z50 ∧ (¬ z50 = 0 → hw sc (d + 2) 91 0 [(0, (2, 43)), (1, (2, 5))] [] ψ1 x (fun r ψ52 y52 => y52 = x ∧ (r = none ∧ (Q none ψ52 x)))) ∧ (¬ (¬ z50 = 0) → hw sc (d + 2) 88 0 [(0, (2, 43))] [] ψ1 x (fun r ψ54 y54 => y54 = x ∧ (r = none ∧ (hw sc (d + 2) 91 0 [(0, (2, 43)), (1, (2, 5))] [] ψ54 x (fun r ψ55 y55 => y55 = x ∧ (r = none ∧ (Q none ψ55 x)))))))))))) ∧ (¬ (¬ z1 = 1) → hi (φ 6 3) ∧ ((φ 6 3) ≤ 0 → hi z1 ∧ hi 2 ∧ (¬ z1 = 2 → hw sc (d + 2) 91 0 [(0, (2, 43)), (1, (2, 5))] [] ψ1 x (fun r ψ59 y59 => y59 = x ∧ (r = none ∧ (Q none ψ59 x)))) ∧ (¬ (¬ z1 = 2) → hw sc (d + 2) 87 0 [(0, (2, 43))] [] ψ1 x (fun r ψ61 y61 => y61 = x ∧ ψ1 = ψ61 ∧ (∃ z61 : Int, r = some (0, z61) ∧ (hi z61 ∧ (¬ z61 = 0 → hw sc (d + 2) 91 0 [(0, (2, 43)), (1, (2, 5))] [] ψ1 x (fun r ψ63 y63 => y63 = x ∧ (r = none ∧ (Q none ψ63 x)))) ∧ (¬ (¬ z61 = 0) → hw sc (d + 2) 88 0 [(0, (2, 43))] [] ψ1 x (fun r ψ65 y65 => y65 = x ∧ (r = none ∧ (hw sc (d + 2) 91 0 [(0, (2, 43)), (1, (2, 5))] [] ψ65 x (fun r ψ66 y66 => y66 = x ∧ (r = none ∧ (Q none ψ66 x)))))))))))) ∧ (¬ (φ 6 3) ≤ 0 → hi (φ 6 2) ∧ ((φ 6 2) ≤ 0 → hi z1 ∧ hi 2 ∧ (¬ z1 = 2 → hw sc (d + 2) 91 0 [(0, (2, 43)), (1, (2, 5))] [] ψ1 x (fun r ψ70 y70 => y70 = x ∧ (r = none ∧ (Q none ψ70 x)))) ∧ (¬ (¬ z1 = 2) → hw sc (d + 2) 87 0 [(0, (2, 43))] [] ψ1 x (fun r ψ72 y72 => y72 = x ∧ ψ1 = ψ72 ∧ (∃ z72 : Int, r = some (0, z72) ∧ (hi z72 ∧ (¬ z72 = 0 → hw sc (d + 2) 91 0 [(0, (2, 43)), (1, (2, 5))] [] ψ1 x (fun r ψ74 y74 => y74 = x ∧ (r = none ∧ (Q none ψ74 x)))) ∧ (¬ (¬ z72 = 0) → hw sc (d + 2) 88 0 [(0, (2, 43))] [] ψ1 x (fun r ψ76 y76 => y76 = x ∧ (r = none ∧ (hw sc (d + 2) 91 0 [(0, (2, 43)), (1, (2, 5))] [] ψ76 x (fun r ψ77 y77 => y77 = x ∧ (r = none ∧ (Q none ψ77 x)))))))))))) ∧ (¬ (φ 6 2) ≤ 0 → hw sc (d + 2) 128 0 [(0, (2, 188)), (1, (0, φ 6 3))] [] ψ1 x (fun r ψ79 y79 => y79 = x ∧ (∃ z79 : Int, r = some (0, z79) ∧ (hw sc (d + 2) 128 0 [(0, (2, 188)), (1, (0, φ 6 2))] [] ψ79 x (fun r ψ80 y80 => y80 = x ∧ (∃ z80 : Int, r = some (0, z80) ∧ (hw sc (d + 2) 54 0 [(0, (2, 43)), (1, (0, z79))] [] ψ80 x (fun r ψ81 y81 => y81 = x ∧ ψ80 = ψ81 ∧ (∃ z81 : Int, r = some (0, z81) ∧ (hi z81 ∧ (¬ z81 = 0 → hw sc (d + 2) 91 0 [(0, (2, 43)), (1, (2, 5))] [] ψ80 x (fun r ψ83 y83 => y83 = x ∧ (r = none ∧ (Q none ψ83 x)))) ∧ (¬ (¬ z81 = 0) → hw sc (d + 2) 55 0 [(0, (2, 43)), (1, (0, z79)), (2, (0, z80))] [] ψ80 x (fun r ψ85 y85 => y85 = x ∧ (r = none ∧ (hw sc (d + 2) 91 0 [(0, (2, 43)), (1, (2, 5))] [] ψ85 x (fun r ψ86 y86 => y86 = x ∧ (r = none ∧ (Q none ψ86 x)))))))))))))))))))) ∧ (¬ (φ 6 3) ≤ 0 → hi (φ 6 1) ∧ ((φ 6 1) ≤ 0 → hi z1 ∧ hi 1 ∧ (¬ z1 = 1 → hi z1 ∧ hi 2 ∧ (¬ z1 = 2 → hw sc (d + 2) 91 0 [(0, (2, 43)), (1, (2, 5))] [] ψ1 x (fun r ψ91 y91 => y91 = x ∧ (r = none ∧ (Q none ψ91 x)))) ∧ (¬ (¬ z1 = 2) → hw sc (d + 2) 87 0 [(0, (2, 43))] [] ψ1 x (fun r ψ93 y93 => y93 = x ∧ ψ1 = ψ93 ∧ (∃ z93 : Int, r = some (0, z93) ∧ (hi z93 ∧ (¬ z93 = 0 → hw sc (d + 2) 91 0 [(0, (2, 43)), (1, (2, 5))] [] ψ1 x (fun r ψ95 y95 => y95 = x ∧ (r = none ∧ (Q none ψ95 x)))) ∧ (¬ (¬ z93 = 0) → hw sc (d + 2) 88 0 [(0, (2, 43))] [] ψ1 x (fun r ψ97 y97 => y97 = x ∧ (r = none ∧ (hw sc (d + 2) 91 0 [(0, (2, 43)), (1, (2, 5))] [] ψ97 x (fun r ψ98 y98 => y98 = x ∧ (r = none ∧ (Q none ψ98 x)))))))))))) ∧ (¬ (¬ z1 = 1) → hi (φ 6 3) ∧ ((φ 6 3) ≤ 0 → hi z1 ∧ hi 2 ∧ (¬ z1 = 2 → hw sc (d + 2) 91 0 [(0, (2, 43)), (1, (2, 5))] [] ψ1 x (fun r ψ102 y102 => y102 = x ∧ (r = none ∧ (Q none ψ102 x)))) ∧ (¬ (¬ z1 = 2) → hw sc (d + 2) 87 0 [(0, (2, 43))] [] ψ1 x (fun r ψ104 y104 => y104 = x ∧ ψ1 = ψ104 ∧ (∃ z104 : Int, r = some (0, z104) ∧ (hi z104 ∧ (¬ z104 = 0 → hw sc (d + 2) 91 0 [(0, (2, 43)), (1, (2, 5))] [] ψ1 x (fun r ψ106 y106 => y106 = x ∧ (r = none ∧ (Q none ψ106 x)))) ∧ (¬ (¬ z104 = 0) → hw sc (d + 2) 88 0 [(0, (2, 43))] [] ψ1 x (fun r ψ108 y108 => y108 = x ∧ (r = none ∧ (hw sc (d + 2) 91 0 [(0, (2, 43)), (1, (2, 5))] [] ψ108 x (fun r ψ109 y109 => y109 = x ∧ (r = none ∧ (Q none ψ109 x)))))))))))) ∧ (¬ (φ 6 3) ≤ 0 → hi (φ 6 2) ∧ ((φ 6 2) ≤ 0 → hi z1 ∧ hi 2 ∧ (¬ z1 = 2 → hw sc (d + 2) 91 0 [(0, (2, 43)), (1, (2, 5))] [] ψ1 x (fun r ψ113 y113 => y113 = x ∧ (r = none ∧ (Q none ψ113 x)))) ∧ (¬ (¬ z1 = 2) → hw sc (d + 2) 87 0 [(0, (2, 43))] [] ψ1 x (fun r ψ115 y115 => y115 = x ∧ ψ1 = ψ115 ∧ (∃ z115 : Int, r = some (0, z115) ∧ (hi z115 ∧ (¬ z115 = 0 → hw sc (d + 2) 91 0 [(0, (2, 43)), (1, (2, 5))] [] ψ1 x (fun r ψ117 y117 => y117 = x ∧ (r = none ∧ (Q none ψ117 x)))) ∧ (¬ (¬ z115 = 0) → hw sc (d + 2) 88 0 [(0, (2, 43))] [] ψ1 x (fun r ψ119 y119 => y119 = x ∧ (r = none ∧ (hw sc (d + 2) 91 0 [(0, (2, 43)), (1, (2, 5))] [] ψ119 x (fun r ψ120 y120 => y120 = x ∧ (r = none ∧ (Q none ψ120 x)))))))))))) ∧ (¬ (φ 6 2) ≤ 0 → hw sc (d + 2) 128 0 [(0, (2, 188)), (1, (0, φ 6 3))] [] ψ1 x (fun r ψ122 y122 => y122 = x ∧ (∃ z122 : Int, r = some (0, z122) ∧ (hw sc (d + 2) 128 0 [(0, (2, 188)), (1, (0, φ 6 2))] [] ψ122 x (fun r ψ123 y123 => y123 = x ∧ (∃ z123 : Int, r = some (0, z123) ∧ (hw sc (d + 2) 54 0 [(0, (2, 43)), (1, (0, z122))] [] ψ123 x (fun r ψ124 y124 => y124 = x ∧ ψ123 = ψ124 ∧ (∃ z124 : Int, r = some (0, z124) ∧ (hi z124 ∧ (¬ z124 = 0 → hw sc (d + 2) 91 0 [(0, (2, 43)), (1, (2, 5))] [] ψ123 x (fun r ψ126 y126 => y126 = x ∧ (r = none ∧ (Q none ψ126 x)))) ∧ (¬ (¬ z124 = 0) → hw sc (d + 2) 55 0 [(0, (2, 43)), (1, (0, z122)), (2, (0, z123))] [] ψ123 x (fun r ψ128 y128 => y128 = x ∧ (r = none ∧ (hw sc (d + 2) 91 0 [(0, (2, 43)), (1, (2, 5))] [] ψ128 x (fun r ψ129 y129 => y129 = x ∧ (r = none ∧ (Q none ψ129 x)))))))))))))))))))) ∧ (¬ (φ 6 1) ≤ 0 → hw sc (d + 2) 128 0 [(0, (2, 188)), (1, (0, φ 6 3))] [] ψ1 x (fun r ψ131 y131 => y131 = x ∧ (∃ z131 : Int, r = some (0, z131) ∧ (hw sc (d + 2) 128 0 [(0, (2, 188)), (1, (0, φ 6 1))] [] ψ131 x (fun r ψ132 y132 => y132 = x ∧ (∃ z132 : Int, r = some (0, z132) ∧ (hw sc (d + 2) 129 0 [(0, (2, 43)), (1, (0, z131)), (2, (0, z132))] [] ψ132 x (fun r ψ133 y133 => y133 = x ∧ (r = none ∧ (hw sc (d + 2) 91 0 [(0, (2, 43)), (1, (2, 5))] [] ψ133 x (fun r ψ134 y134 => y134 = x ∧ (r = none ∧ (Q none ψ134 x))))))))))))))))))) :
    hw sc (d + 3) 127 0 [(0, (2, 43)), (1, (2, 5)), (2, (2, 188))] [] φ x Q := by
  refine hw_ald (b := 1) (e := 0) (by decide +kernel) rfl (by decide) ?_
  refine hr_gr (w := 6) (b := 3) (e := 0) 5 rfl (by decide +kernel) ?_
  refine hw_k (c := 3) (b := 0) (e := 1) (by decide +kernel) ?_
  refine hr_al (b := 0) (a0 := 0) (e := 0) (n := 5) (w := φ 6 3) 6 rfl (by decide +kernel) (by decide) (by decide) (by decide) rfl ?_
  refine hw_st (L' := (jm_st1 [(0, (2, 43)), (1, (2, 5)), (2, (2, 188))] 3 (0, φ 6 3))) (b := 3) (e := 0) (by decide +kernel) rfl ?_
  refine hw_ald (b := 1) (e := 0) (by decide +kernel) (get_st1 rfl (by decide) (fun q => absurd q.1 (by decide))) (by decide) ?_
  refine hr_gr (w := 6) (b := 3) (e := 0) 5 rfl (by decide +kernel) ?_
  refine hw_k (c := 1) (b := 0) (e := 1) (by decide +kernel) ?_
  refine hr_al (b := 0) (a0 := 0) (e := 0) (n := 5) (w := φ 6 1) 6 rfl (by decide +kernel) (by decide) (by decide) (by decide) rfl ?_
  refine hw_st (L' := (jm_st1 (jm_st1 [(0, (2, 43)), (1, (2, 5)), (2, (2, 188))] 3 (0, φ 6 3)) 4 (0, φ 6 1))) (b := 4) (e := 1) (by decide +kernel) rfl ?_
  refine hw_ald (b := 1) (e := 0) (by decide +kernel) (get_st1 (get_st1 rfl (by decide) (fun q => absurd q.1 (by decide))) (by decide) (fun q => absurd q.1 (by decide))) (by decide) ?_
  refine hr_gr (w := 6) (b := 3) (e := 0) 5 rfl (by decide +kernel) ?_
  refine hw_k (c := 2) (b := 0) (e := 1) (by decide +kernel) ?_
  refine hr_al (b := 0) (a0 := 0) (e := 0) (n := 5) (w := φ 6 2) 6 rfl (by decide +kernel) (by decide) (by decide) (by decide) rfl ?_
  refine hw_st (L' := (jm_st1 (jm_st1 (jm_st1 [(0, (2, 43)), (1, (2, 5)), (2, (2, 188))] 3 (0, φ 6 3)) 4 (0, φ 6 1)) 5 (0, φ 6 2))) (b := 5) (e := 1) (by decide +kernel) rfl ?_
  refine hw_ald (b := 2) (e := 0) (by decide +kernel) (get_st1 (get_st1 (get_st1 rfl (by decide) (fun q => tg2 q.2)) (by decide) (fun q => absurd q.1 (by decide))) (by decide) (fun q => absurd q.1 (by decide))) (by decide) ?_
  refine hw_k (c := 12) (b := 1) (e := 2) (by decide +kernel) ?_
  refine hr_call (a0 := 20) (b := 128) (e := 2) (nl := 2) (As := [(0, 12)]) (R := []) 188 rfl (by decide +kernel) rfl rfl (Nat.le_of_ble_eq_true rfl) (Nat.le_of_ble_eq_true rfl) ?_
  refine hw_mono H ?_
  rintro r ψ1 y1 ⟨hyx, z1, hr, H⟩
  subst hyx
  subst hr
  refine ⟨hne0, ?_⟩
  show hw sc (d + 3) 127 29 (jm_st1 (jm_st1 (jm_st1 [(0, (2, 43)), (1, (2, 5)), (2, (2, 188))] 3 (0, φ 6 3)) 4 (0, φ 6 1)) 5 (0, φ 6 2)) [(0, z1)] ψ1 y1 Q
  refine hw_st (L' := (jm_st1 (jm_st1 (jm_st1 (jm_st1 [(0, (2, 43)), (1, (2, 5)), (2, (2, 188))] 3 (0, φ 6 3)) 4 (0, φ 6 1)) 5 (0, φ 6 2)) 6 (0, z1))) (b := 6) (e := 1) (by decide +kernel) rfl ?_
  refine hw_ld (b := 6) (e := 1) (by decide +kernel) get_st1e ?_
  obtain ⟨hz2, ht2, hf2⟩ := H
  refine hw_if (a0 := 0) (b := 1) (e := 67) (by decide +kernel) hz2 (fun q => ?_) (fun q => ?_)
  · have H := ht2 q
    refine hw_ld (b := 6) (e := 1) (by decide +kernel) get_st1e ?_
    refine hw_k (c := 1) (b := 0) (e := 1) (by decide +kernel) ?_
    obtain ⟨hz3, hy3, ht3, hf3⟩ := H
    refine hw_if2 (a0 := 0) (b := 1) (e := 117) (by decide +kernel) hz3 hy3 (fun q => ?_) (fun q => ?_)
    · have H := ht3 q
      refine hw_ld (b := 6) (e := 1) (by decide +kernel) get_st1e ?_
      refine hw_k (c := 2) (b := 0) (e := 1) (by decide +kernel) ?_
      obtain ⟨hz4, hy4, ht4, hf4⟩ := H
      refine hw_if2 (a0 := 0) (b := 1) (e := 134) (by decide +kernel) hz4 hy4 (fun q => ?_) (fun q => ?_)
      · have H := ht4 q
        refine hw_ald (b := 0) (e := 0) (by decide +kernel) (get_st1 (get_st1 (get_st1 (get_st1 rfl (by decide) (fun q => absurd q.1 (by decide))) (by decide) (fun q => absurd q.1 (by decide))) (by decide) (fun q => absurd q.1 (by decide))) (by decide) (fun q => absurd q.1 (by decide))) (by decide) ?_
        refine hw_ald (b := 1) (e := 0) (by decide +kernel) (get_st1 (get_st1 (get_st1 (get_st1 rfl (by decide) (fun q => absurd q.1 (by decide))) (by decide) (fun q => absurd q.1 (by decide))) (by decide) (fun q => absurd q.1 (by decide))) (by decide) (fun q => absurd q.1 (by decide))) (by decide) ?_
        refine hr_call (a0 := 14) (b := 91) (e := 2) (nl := 6) (As := [(2, 5)]) (R := []) 43 rfl (by decide +kernel) rfl rfl (Nat.le_of_ble_eq_true rfl) (Nat.le_of_ble_eq_true rfl) ?_
        refine hw_mono H ?_
        rintro r ψ5 y5 ⟨hyx, hr, H⟩
        subst hyx
        subst hr
        refine ⟨hnen, ?_⟩
        show hw sc (d + 3) 127 139 (jm_st1 (jm_st1 (jm_st1 (jm_st1 [(0, (2, 43)), (1, (2, 5)), (2, (2, 188))] 3 (0, φ 6 3)) 4 (0, φ 6 1)) 5 (0, φ 6 2)) 6 (0, z1)) [] ψ5 y5 Q
        exact hw_vret (a0 := 0) (e := 0) (by decide +kernel) H
      · have H := hf4 q
        refine hw_ald (b := 0) (e := 0) (by decide +kernel) (get_st1 (get_st1 (get_st1 (get_st1 rfl (by decide) (fun q => absurd q.1 (by decide))) (by decide) (fun q => absurd q.1 (by decide))) (by decide) (fun q => absurd q.1 (by decide))) (by decide) (fun q => absurd q.1 (by decide))) (by decide) ?_
        refine hr_call (a0 := 14) (b := 87) (e := 1) (nl := 1) (As := []) (R := []) 43 rfl (by decide +kernel) rfl rfl (Nat.le_of_ble_eq_true rfl) (Nat.le_of_ble_eq_true rfl) ?_
        refine hw_mono H ?_
        rintro r ψ7 y7 ⟨hyx, hψx, z7, hr, H⟩
        subst hyx
        subst hψx
        subst hr
        refine ⟨hne0, ?_⟩
        show hw sc (d + 3) 127 127 (jm_st1 (jm_st1 (jm_st1 (jm_st1 [(0, (2, 43)), (1, (2, 5)), (2, (2, 188))] 3 (0, φ 6 3)) 4 (0, φ 6 1)) 5 (0, φ 6 2)) 6 (0, z1)) [(0, z7)] ψ1 y7 Q
        obtain ⟨hz8, ht8, hf8⟩ := H
        refine hw_if (a0 := 0) (b := 1) (e := 134) (by decide +kernel) hz8 (fun q => ?_) (fun q => ?_)
        · have H := ht8 q
          refine hw_ald (b := 0) (e := 0) (by decide +kernel) (get_st1 (get_st1 (get_st1 (get_st1 rfl (by decide) (fun q => absurd q.1 (by decide))) (by decide) (fun q => absurd q.1 (by decide))) (by decide) (fun q => absurd q.1 (by decide))) (by decide) (fun q => absurd q.1 (by decide))) (by decide) ?_
          refine hw_ald (b := 1) (e := 0) (by decide +kernel) (get_st1 (get_st1 (get_st1 (get_st1 rfl (by decide) (fun q => absurd q.1 (by decide))) (by decide) (fun q => absurd q.1 (by decide))) (by decide) (fun q => absurd q.1 (by decide))) (by decide) (fun q => absurd q.1 (by decide))) (by decide) ?_
          refine hr_call (a0 := 14) (b := 91) (e := 2) (nl := 6) (As := [(2, 5)]) (R := []) 43 rfl (by decide +kernel) rfl rfl (Nat.le_of_ble_eq_true rfl) (Nat.le_of_ble_eq_true rfl) ?_
          refine hw_mono H ?_
          rintro r ψ9 y9 ⟨hyx, hr, H⟩
          subst hyx
          subst hr
          refine ⟨hnen, ?_⟩
          show hw sc (d + 3) 127 139 (jm_st1 (jm_st1 (jm_st1 (jm_st1 [(0, (2, 43)), (1, (2, 5)), (2, (2, 188))] 3 (0, φ 6 3)) 4 (0, φ 6 1)) 5 (0, φ 6 2)) 6 (0, z1)) [] ψ9 y9 Q
          exact hw_vret (a0 := 0) (e := 0) (by decide +kernel) H
        · have H := hf8 q
          refine hw_ald (b := 0) (e := 0) (by decide +kernel) (get_st1 (get_st1 (get_st1 (get_st1 rfl (by decide) (fun q => absurd q.1 (by decide))) (by decide) (fun q => absurd q.1 (by decide))) (by decide) (fun q => absurd q.1 (by decide))) (by decide) (fun q => absurd q.1 (by decide))) (by decide) ?_
          refine hr_call (a0 := 14) (b := 88) (e := 1) (nl := 1) (As := []) (R := []) 43 rfl (by decide +kernel) rfl rfl (Nat.le_of_ble_eq_true rfl) (Nat.le_of_ble_eq_true rfl) ?_
          refine hw_mono H ?_
          rintro r ψ11 y11 ⟨hyx, hr, H⟩
          subst hyx
          subst hr
          refine ⟨hnen, ?_⟩
          show hw sc (d + 3) 127 134 (jm_st1 (jm_st1 (jm_st1 (jm_st1 [(0, (2, 43)), (1, (2, 5)), (2, (2, 188))] 3 (0, φ 6 3)) 4 (0, φ 6 1)) 5 (0, φ 6 2)) 6 (0, z1)) [] ψ11 y11 Q
          refine hw_ald (b := 0) (e := 0) (by decide +kernel) (get_st1 (get_st1 (get_st1 (get_st1 rfl (by decide) (fun q => absurd q.1 (by decide))) (by decide) (fun q => absurd q.1 (by decide))) (by decide) (fun q => absurd q.1 (by decide))) (by decide) (fun q => absurd q.1 (by decide))) (by decide) ?_
          refine hw_ald (b := 1) (e := 0) (by decide +kernel) (get_st1 (get_st1 (get_st1 (get_st1 rfl (by decide) (fun q => absurd q.1 (by decide))) (by decide) (fun q => absurd q.1 (by decide))) (by decide) (fun q => absurd q.1 (by decide))) (by decide) (fun q => absurd q.1 (by decide))) (by decide) ?_
          refine hr_call (a0 := 14) (b := 91) (e := 2) (nl := 6) (As := [(2, 5)]) (R := []) 43 rfl (by decide +kernel) rfl rfl (Nat.le_of_ble_eq_true rfl) (Nat.le_of_ble_eq_true rfl) ?_
          refine hw_mono H ?_
          rintro r ψ12 y12 ⟨hyx, hr, H⟩
          subst hyx
          subst hr
          refine ⟨hnen, ?_⟩
          show hw sc (d + 3) 127 139 (jm_st1 (jm_st1 (jm_st1 (jm_st1 [(0, (2, 43)), (1, (2, 5)), (2, (2, 188))] 3 (0, φ 6 3)) 4 (0, φ 6 1)) 5 (0, φ 6 2)) 6 (0, z1)) [] ψ12 y12 Q
          exact hw_vret (a0 := 0) (e := 0) (by decide +kernel) H
    · have H := hf3 q
      refine hw_ld (b := 3) (e := 0) (by decide +kernel) (get_st1 (get_st1 (get_st1 get_st1e (by decide) (fun q => tg0 q.2)) (by decide) (fun q => absurd q.1 (by decide))) (by decide) (fun q => absurd q.1 (by decide))) ?_
      obtain ⟨hz14, ht14, hf14⟩ := H
      refine hw_if (a0 := 0) (b := 5) (e := 117) (by decide +kernel) hz14 (fun q => ?_) (fun q => ?_)
      · have H := ht14 q
        refine hw_ld (b := 6) (e := 1) (by decide +kernel) get_st1e ?_
        refine hw_k (c := 2) (b := 0) (e := 1) (by decide +kernel) ?_
        obtain ⟨hz15, hy15, ht15, hf15⟩ := H
        refine hw_if2 (a0 := 0) (b := 1) (e := 134) (by decide +kernel) hz15 hy15 (fun q => ?_) (fun q => ?_)
        · have H := ht15 q
          refine hw_ald (b := 0) (e := 0) (by decide +kernel) (get_st1 (get_st1 (get_st1 (get_st1 rfl (by decide) (fun q => absurd q.1 (by decide))) (by decide) (fun q => absurd q.1 (by decide))) (by decide) (fun q => absurd q.1 (by decide))) (by decide) (fun q => absurd q.1 (by decide))) (by decide) ?_
          refine hw_ald (b := 1) (e := 0) (by decide +kernel) (get_st1 (get_st1 (get_st1 (get_st1 rfl (by decide) (fun q => absurd q.1 (by decide))) (by decide) (fun q => absurd q.1 (by decide))) (by decide) (fun q => absurd q.1 (by decide))) (by decide) (fun q => absurd q.1 (by decide))) (by decide) ?_
          refine hr_call (a0 := 14) (b := 91) (e := 2) (nl := 6) (As := [(2, 5)]) (R := []) 43 rfl (by decide +kernel) rfl rfl (Nat.le_of_ble_eq_true rfl) (Nat.le_of_ble_eq_true rfl) ?_
          refine hw_mono H ?_
          rintro r ψ16 y16 ⟨hyx, hr, H⟩
          subst hyx
          subst hr
          refine ⟨hnen, ?_⟩
          show hw sc (d + 3) 127 139 (jm_st1 (jm_st1 (jm_st1 (jm_st1 [(0, (2, 43)), (1, (2, 5)), (2, (2, 188))] 3 (0, φ 6 3)) 4 (0, φ 6 1)) 5 (0, φ 6 2)) 6 (0, z1)) [] ψ16 y16 Q
          exact hw_vret (a0 := 0) (e := 0) (by decide +kernel) H
        · have H := hf15 q
          refine hw_ald (b := 0) (e := 0) (by decide +kernel) (get_st1 (get_st1 (get_st1 (get_st1 rfl (by decide) (fun q => absurd q.1 (by decide))) (by decide) (fun q => absurd q.1 (by decide))) (by decide) (fun q => absurd q.1 (by decide))) (by decide) (fun q => absurd q.1 (by decide))) (by decide) ?_
          refine hr_call (a0 := 14) (b := 87) (e := 1) (nl := 1) (As := []) (R := []) 43 rfl (by decide +kernel) rfl rfl (Nat.le_of_ble_eq_true rfl) (Nat.le_of_ble_eq_true rfl) ?_
          refine hw_mono H ?_
          rintro r ψ18 y18 ⟨hyx, hψx, z18, hr, H⟩
          subst hyx
          subst hψx
          subst hr
          refine ⟨hne0, ?_⟩
          show hw sc (d + 3) 127 127 (jm_st1 (jm_st1 (jm_st1 (jm_st1 [(0, (2, 43)), (1, (2, 5)), (2, (2, 188))] 3 (0, φ 6 3)) 4 (0, φ 6 1)) 5 (0, φ 6 2)) 6 (0, z1)) [(0, z18)] ψ1 y18 Q
          obtain ⟨hz19, ht19, hf19⟩ := H
          refine hw_if (a0 := 0) (b := 1) (e := 134) (by decide +kernel) hz19 (fun q => ?_) (fun q => ?_)
          · have H := ht19 q
            refine hw_ald (b := 0) (e := 0) (by decide +kernel) (get_st1 (get_st1 (get_st1 (get_st1 rfl (by decide) (fun q => absurd q.1 (by decide))) (by decide) (fun q => absurd q.1 (by decide))) (by decide) (fun q => absurd q.1 (by decide))) (by decide) (fun q => absurd q.1 (by decide))) (by decide) ?_
            refine hw_ald (b := 1) (e := 0) (by decide +kernel) (get_st1 (get_st1 (get_st1 (get_st1 rfl (by decide) (fun q => absurd q.1 (by decide))) (by decide) (fun q => absurd q.1 (by decide))) (by decide) (fun q => absurd q.1 (by decide))) (by decide) (fun q => absurd q.1 (by decide))) (by decide) ?_
            refine hr_call (a0 := 14) (b := 91) (e := 2) (nl := 6) (As := [(2, 5)]) (R := []) 43 rfl (by decide +kernel) rfl rfl (Nat.le_of_ble_eq_true rfl) (Nat.le_of_ble_eq_true rfl) ?_
            refine hw_mono H ?_
            rintro r ψ20 y20 ⟨hyx, hr, H⟩
            subst hyx
            subst hr
            refine ⟨hnen, ?_⟩
            show hw sc (d + 3) 127 139 (jm_st1 (jm_st1 (jm_st1 (jm_st1 [(0, (2, 43)), (1, (2, 5)), (2, (2, 188))] 3 (0, φ 6 3)) 4 (0, φ 6 1)) 5 (0, φ 6 2)) 6 (0, z1)) [] ψ20 y20 Q
            exact hw_vret (a0 := 0) (e := 0) (by decide +kernel) H
          · have H := hf19 q
            refine hw_ald (b := 0) (e := 0) (by decide +kernel) (get_st1 (get_st1 (get_st1 (get_st1 rfl (by decide) (fun q => absurd q.1 (by decide))) (by decide) (fun q => absurd q.1 (by decide))) (by decide) (fun q => absurd q.1 (by decide))) (by decide) (fun q => absurd q.1 (by decide))) (by decide) ?_
            refine hr_call (a0 := 14) (b := 88) (e := 1) (nl := 1) (As := []) (R := []) 43 rfl (by decide +kernel) rfl rfl (Nat.le_of_ble_eq_true rfl) (Nat.le_of_ble_eq_true rfl) ?_
            refine hw_mono H ?_
            rintro r ψ22 y22 ⟨hyx, hr, H⟩
            subst hyx
            subst hr
            refine ⟨hnen, ?_⟩
            show hw sc (d + 3) 127 134 (jm_st1 (jm_st1 (jm_st1 (jm_st1 [(0, (2, 43)), (1, (2, 5)), (2, (2, 188))] 3 (0, φ 6 3)) 4 (0, φ 6 1)) 5 (0, φ 6 2)) 6 (0, z1)) [] ψ22 y22 Q
            refine hw_ald (b := 0) (e := 0) (by decide +kernel) (get_st1 (get_st1 (get_st1 (get_st1 rfl (by decide) (fun q => absurd q.1 (by decide))) (by decide) (fun q => absurd q.1 (by decide))) (by decide) (fun q => absurd q.1 (by decide))) (by decide) (fun q => absurd q.1 (by decide))) (by decide) ?_
            refine hw_ald (b := 1) (e := 0) (by decide +kernel) (get_st1 (get_st1 (get_st1 (get_st1 rfl (by decide) (fun q => absurd q.1 (by decide))) (by decide) (fun q => absurd q.1 (by decide))) (by decide) (fun q => absurd q.1 (by decide))) (by decide) (fun q => absurd q.1 (by decide))) (by decide) ?_
            refine hr_call (a0 := 14) (b := 91) (e := 2) (nl := 6) (As := [(2, 5)]) (R := []) 43 rfl (by decide +kernel) rfl rfl (Nat.le_of_ble_eq_true rfl) (Nat.le_of_ble_eq_true rfl) ?_
            refine hw_mono H ?_
            rintro r ψ23 y23 ⟨hyx, hr, H⟩
            subst hyx
            subst hr
            refine ⟨hnen, ?_⟩
            show hw sc (d + 3) 127 139 (jm_st1 (jm_st1 (jm_st1 (jm_st1 [(0, (2, 43)), (1, (2, 5)), (2, (2, 188))] 3 (0, φ 6 3)) 4 (0, φ 6 1)) 5 (0, φ 6 2)) 6 (0, z1)) [] ψ23 y23 Q
            exact hw_vret (a0 := 0) (e := 0) (by decide +kernel) H
      · have H := hf14 q
        refine hw_ld (b := 5) (e := 1) (by decide +kernel) (get_st1 get_st1e (by decide) (fun q => tg0 q.2)) ?_
        obtain ⟨hz25, ht25, hf25⟩ := H
        refine hw_if (a0 := 0) (b := 5) (e := 117) (by decide +kernel) hz25 (fun q => ?_) (fun q => ?_)
        · have H := ht25 q
          refine hw_ld (b := 6) (e := 1) (by decide +kernel) get_st1e ?_
          refine hw_k (c := 2) (b := 0) (e := 1) (by decide +kernel) ?_
          obtain ⟨hz26, hy26, ht26, hf26⟩ := H
          refine hw_if2 (a0 := 0) (b := 1) (e := 134) (by decide +kernel) hz26 hy26 (fun q => ?_) (fun q => ?_)
          · have H := ht26 q
            refine hw_ald (b := 0) (e := 0) (by decide +kernel) (get_st1 (get_st1 (get_st1 (get_st1 rfl (by decide) (fun q => absurd q.1 (by decide))) (by decide) (fun q => absurd q.1 (by decide))) (by decide) (fun q => absurd q.1 (by decide))) (by decide) (fun q => absurd q.1 (by decide))) (by decide) ?_
            refine hw_ald (b := 1) (e := 0) (by decide +kernel) (get_st1 (get_st1 (get_st1 (get_st1 rfl (by decide) (fun q => absurd q.1 (by decide))) (by decide) (fun q => absurd q.1 (by decide))) (by decide) (fun q => absurd q.1 (by decide))) (by decide) (fun q => absurd q.1 (by decide))) (by decide) ?_
            refine hr_call (a0 := 14) (b := 91) (e := 2) (nl := 6) (As := [(2, 5)]) (R := []) 43 rfl (by decide +kernel) rfl rfl (Nat.le_of_ble_eq_true rfl) (Nat.le_of_ble_eq_true rfl) ?_
            refine hw_mono H ?_
            rintro r ψ27 y27 ⟨hyx, hr, H⟩
            subst hyx
            subst hr
            refine ⟨hnen, ?_⟩
            show hw sc (d + 3) 127 139 (jm_st1 (jm_st1 (jm_st1 (jm_st1 [(0, (2, 43)), (1, (2, 5)), (2, (2, 188))] 3 (0, φ 6 3)) 4 (0, φ 6 1)) 5 (0, φ 6 2)) 6 (0, z1)) [] ψ27 y27 Q
            exact hw_vret (a0 := 0) (e := 0) (by decide +kernel) H
          · have H := hf26 q
            refine hw_ald (b := 0) (e := 0) (by decide +kernel) (get_st1 (get_st1 (get_st1 (get_st1 rfl (by decide) (fun q => absurd q.1 (by decide))) (by decide) (fun q => absurd q.1 (by decide))) (by decide) (fun q => absurd q.1 (by decide))) (by decide) (fun q => absurd q.1 (by decide))) (by decide) ?_
            refine hr_call (a0 := 14) (b := 87) (e := 1) (nl := 1) (As := []) (R := []) 43 rfl (by decide +kernel) rfl rfl (Nat.le_of_ble_eq_true rfl) (Nat.le_of_ble_eq_true rfl) ?_
            refine hw_mono H ?_
            rintro r ψ29 y29 ⟨hyx, hψx, z29, hr, H⟩
            subst hyx
            subst hψx
            subst hr
            refine ⟨hne0, ?_⟩
            show hw sc (d + 3) 127 127 (jm_st1 (jm_st1 (jm_st1 (jm_st1 [(0, (2, 43)), (1, (2, 5)), (2, (2, 188))] 3 (0, φ 6 3)) 4 (0, φ 6 1)) 5 (0, φ 6 2)) 6 (0, z1)) [(0, z29)] ψ1 y29 Q
            obtain ⟨hz30, ht30, hf30⟩ := H
            refine hw_if (a0 := 0) (b := 1) (e := 134) (by decide +kernel) hz30 (fun q => ?_) (fun q => ?_)
            · have H := ht30 q
              refine hw_ald (b := 0) (e := 0) (by decide +kernel) (get_st1 (get_st1 (get_st1 (get_st1 rfl (by decide) (fun q => absurd q.1 (by decide))) (by decide) (fun q => absurd q.1 (by decide))) (by decide) (fun q => absurd q.1 (by decide))) (by decide) (fun q => absurd q.1 (by decide))) (by decide) ?_
              refine hw_ald (b := 1) (e := 0) (by decide +kernel) (get_st1 (get_st1 (get_st1 (get_st1 rfl (by decide) (fun q => absurd q.1 (by decide))) (by decide) (fun q => absurd q.1 (by decide))) (by decide) (fun q => absurd q.1 (by decide))) (by decide) (fun q => absurd q.1 (by decide))) (by decide) ?_
              refine hr_call (a0 := 14) (b := 91) (e := 2) (nl := 6) (As := [(2, 5)]) (R := []) 43 rfl (by decide +kernel) rfl rfl (Nat.le_of_ble_eq_true rfl) (Nat.le_of_ble_eq_true rfl) ?_
              refine hw_mono H ?_
              rintro r ψ31 y31 ⟨hyx, hr, H⟩
              subst hyx
              subst hr
              refine ⟨hnen, ?_⟩
              show hw sc (d + 3) 127 139 (jm_st1 (jm_st1 (jm_st1 (jm_st1 [(0, (2, 43)), (1, (2, 5)), (2, (2, 188))] 3 (0, φ 6 3)) 4 (0, φ 6 1)) 5 (0, φ 6 2)) 6 (0, z1)) [] ψ31 y31 Q
              exact hw_vret (a0 := 0) (e := 0) (by decide +kernel) H
            · have H := hf30 q
              refine hw_ald (b := 0) (e := 0) (by decide +kernel) (get_st1 (get_st1 (get_st1 (get_st1 rfl (by decide) (fun q => absurd q.1 (by decide))) (by decide) (fun q => absurd q.1 (by decide))) (by decide) (fun q => absurd q.1 (by decide))) (by decide) (fun q => absurd q.1 (by decide))) (by decide) ?_
              refine hr_call (a0 := 14) (b := 88) (e := 1) (nl := 1) (As := []) (R := []) 43 rfl (by decide +kernel) rfl rfl (Nat.le_of_ble_eq_true rfl) (Nat.le_of_ble_eq_true rfl) ?_
              refine hw_mono H ?_
              rintro r ψ33 y33 ⟨hyx, hr, H⟩
              subst hyx
              subst hr
              refine ⟨hnen, ?_⟩
              show hw sc (d + 3) 127 134 (jm_st1 (jm_st1 (jm_st1 (jm_st1 [(0, (2, 43)), (1, (2, 5)), (2, (2, 188))] 3 (0, φ 6 3)) 4 (0, φ 6 1)) 5 (0, φ 6 2)) 6 (0, z1)) [] ψ33 y33 Q
              refine hw_ald (b := 0) (e := 0) (by decide +kernel) (get_st1 (get_st1 (get_st1 (get_st1 rfl (by decide) (fun q => absurd q.1 (by decide))) (by decide) (fun q => absurd q.1 (by decide))) (by decide) (fun q => absurd q.1 (by decide))) (by decide) (fun q => absurd q.1 (by decide))) (by decide) ?_
              refine hw_ald (b := 1) (e := 0) (by decide +kernel) (get_st1 (get_st1 (get_st1 (get_st1 rfl (by decide) (fun q => absurd q.1 (by decide))) (by decide) (fun q => absurd q.1 (by decide))) (by decide) (fun q => absurd q.1 (by decide))) (by decide) (fun q => absurd q.1 (by decide))) (by decide) ?_
              refine hr_call (a0 := 14) (b := 91) (e := 2) (nl := 6) (As := [(2, 5)]) (R := []) 43 rfl (by decide +kernel) rfl rfl (Nat.le_of_ble_eq_true rfl) (Nat.le_of_ble_eq_true rfl) ?_
              refine hw_mono H ?_
              rintro r ψ34 y34 ⟨hyx, hr, H⟩
              subst hyx
              subst hr
              refine ⟨hnen, ?_⟩
              show hw sc (d + 3) 127 139 (jm_st1 (jm_st1 (jm_st1 (jm_st1 [(0, (2, 43)), (1, (2, 5)), (2, (2, 188))] 3 (0, φ 6 3)) 4 (0, φ 6 1)) 5 (0, φ 6 2)) 6 (0, z1)) [] ψ34 y34 Q
              exact hw_vret (a0 := 0) (e := 0) (by decide +kernel) H
        · have H := hf25 q
          refine hw_ald (b := 2) (e := 0) (by decide +kernel) (get_st1 (get_st1 (get_st1 (get_st1 rfl (by decide) (fun q => tg2 q.2)) (by decide) (fun q => absurd q.1 (by decide))) (by decide) (fun q => absurd q.1 (by decide))) (by decide) (fun q => absurd q.1 (by decide))) (by decide) ?_
          refine hw_ld (b := 3) (e := 0) (by decide +kernel) (get_st1 (get_st1 (get_st1 get_st1e (by decide) (fun q => tg0 q.2)) (by decide) (fun q => absurd q.1 (by decide))) (by decide) (fun q => absurd q.1 (by decide))) ?_
          refine hr_call (a0 := 20) (b := 128) (e := 2) (nl := 2) (As := [(0, φ 6 3)]) (R := []) 188 rfl (by decide +kernel) rfl rfl (Nat.le_of_ble_eq_true rfl) (Nat.le_of_ble_eq_true rfl) ?_
          refine hw_mono H ?_
          rintro r ψ36 y36 ⟨hyx, z36, hr, H⟩
          subst hyx
          subst hr
          refine ⟨hne0, ?_⟩
          show hw sc (d + 3) 127 87 (jm_st1 (jm_st1 (jm_st1 (jm_st1 [(0, (2, 43)), (1, (2, 5)), (2, (2, 188))] 3 (0, φ 6 3)) 4 (0, φ 6 1)) 5 (0, φ 6 2)) 6 (0, z1)) [(0, z36)] ψ36 y36 Q
          refine hw_st (L' := (jm_st1 (jm_st1 (jm_st1 (jm_st1 (jm_st1 [(0, (2, 43)), (1, (2, 5)), (2, (2, 188))] 3 (0, φ 6 3)) 4 (0, φ 6 1)) 5 (0, φ 6 2)) 6 (0, z1)) 7 (0, z36))) (b := 7) (e := 1) (by decide +kernel) rfl ?_
          refine hw_ald (b := 2) (e := 0) (by decide +kernel) (get_st1 (get_st1 (get_st1 (get_st1 (get_st1 rfl (by decide) (fun q => tg2 q.2)) (by decide) (fun q => absurd q.1 (by decide))) (by decide) (fun q => absurd q.1 (by decide))) (by decide) (fun q => absurd q.1 (by decide))) (by decide) (fun q => absurd q.1 (by decide))) (by decide) ?_
          refine hw_ld (b := 5) (e := 1) (by decide +kernel) (get_st1 (get_st1 get_st1e (by decide) (fun q => tg0 q.2)) (by decide) (fun q => absurd q.1 (by decide))) ?_
          refine hr_call (a0 := 20) (b := 128) (e := 2) (nl := 2) (As := [(0, φ 6 2)]) (R := []) 188 rfl (by decide +kernel) rfl rfl (Nat.le_of_ble_eq_true rfl) (Nat.le_of_ble_eq_true rfl) ?_
          refine hw_mono H ?_
          rintro r ψ37 y37 ⟨hyx, z37, hr, H⟩
          subst hyx
          subst hr
          refine ⟨hne0, ?_⟩
          show hw sc (d + 3) 127 95 (jm_st1 (jm_st1 (jm_st1 (jm_st1 (jm_st1 [(0, (2, 43)), (1, (2, 5)), (2, (2, 188))] 3 (0, φ 6 3)) 4 (0, φ 6 1)) 5 (0, φ 6 2)) 6 (0, z1)) 7 (0, z36)) [(0, z37)] ψ37 y37 Q
          refine hw_st (L' := (jm_st1 (jm_st1 (jm_st1 (jm_st1 (jm_st1 (jm_st1 [(0, (2, 43)), (1, (2, 5)), (2, (2, 188))] 3 (0, φ 6 3)) 4 (0, φ 6 1)) 5 (0, φ 6 2)) 6 (0, z1)) 7 (0, z36)) 8 (0, z37))) (b := 8) (e := 1) (by decide +kernel) rfl ?_
          refine hw_ald (b := 0) (e := 0) (by decide +kernel) (get_st1 (get_st1 (get_st1 (get_st1 (get_st1 (get_st1 rfl (by decide) (fun q => absurd q.1 (by decide))) (by decide) (fun q => absurd q.1 (by decide))) (by decide) (fun q => absurd q.1 (by decide))) (by decide) (fun q => absurd q.1 (by decide))) (by decide) (fun q => absurd q.1 (by decide))) (by decide) (fun q => absurd q.1 (by decide))) (by decide) ?_
          refine hw_ld (b := 7) (e := 1) (by decide +kernel) (get_st1 get_st1e (by decide) (fun q => tg0 q.2)) ?_
          refine hr_call (a0 := 14) (b := 54) (e := 2) (nl := 2) (As := [(0, z36)]) (R := []) 43 rfl (by decide +kernel) rfl rfl (Nat.le_of_ble_eq_true rfl) (Nat.le_of_ble_eq_true rfl) ?_
          refine hw_mono H ?_
          rintro r ψ38 y38 ⟨hyx, hψx, z38, hr, H⟩
          subst hyx
          subst hψx
          subst hr
          refine ⟨hne0, ?_⟩
          show hw sc (d + 3) 127 103 (jm_st1 (jm_st1 (jm_st1 (jm_st1 (jm_st1 (jm_st1 [(0, (2, 43)), (1, (2, 5)), (2, (2, 188))] 3 (0, φ 6 3)) 4 (0, φ 6 1)) 5 (0, φ 6 2)) 6 (0, z1)) 7 (0, z36)) 8 (0, z37)) [(0, z38)] ψ37 y38 Q
          obtain ⟨hz39, ht39, hf39⟩ := H
          refine hw_if (a0 := 0) (b := 1) (e := 114) (by decide +kernel) hz39 (fun q => ?_) (fun q => ?_)
          · have H := ht39 q
            refine hw_goto (a0 := 0) (b := 0) (e := 134) (by decide +kernel) ?_
            refine hw_ald (b := 0) (e := 0) (by decide +kernel) (get_st1 (get_st1 (get_st1 (get_st1 (get_st1 (get_st1 rfl (by decide) (fun q => absurd q.1 (by decide))) (by decide) (fun q => absurd q.1 (by decide))) (by decide) (fun q => absurd q.1 (by decide))) (by decide) (fun q => absurd q.1 (by decide))) (by decide) (fun q => absurd q.1 (by decide))) (by decide) (fun q => absurd q.1 (by decide))) (by decide) ?_
            refine hw_ald (b := 1) (e := 0) (by decide +kernel) (get_st1 (get_st1 (get_st1 (get_st1 (get_st1 (get_st1 rfl (by decide) (fun q => absurd q.1 (by decide))) (by decide) (fun q => absurd q.1 (by decide))) (by decide) (fun q => absurd q.1 (by decide))) (by decide) (fun q => absurd q.1 (by decide))) (by decide) (fun q => absurd q.1 (by decide))) (by decide) (fun q => absurd q.1 (by decide))) (by decide) ?_
            refine hr_call (a0 := 14) (b := 91) (e := 2) (nl := 6) (As := [(2, 5)]) (R := []) 43 rfl (by decide +kernel) rfl rfl (Nat.le_of_ble_eq_true rfl) (Nat.le_of_ble_eq_true rfl) ?_
            refine hw_mono H ?_
            rintro r ψ40 y40 ⟨hyx, hr, H⟩
            subst hyx
            subst hr
            refine ⟨hnen, ?_⟩
            show hw sc (d + 3) 127 139 (jm_st1 (jm_st1 (jm_st1 (jm_st1 (jm_st1 (jm_st1 [(0, (2, 43)), (1, (2, 5)), (2, (2, 188))] 3 (0, φ 6 3)) 4 (0, φ 6 1)) 5 (0, φ 6 2)) 6 (0, z1)) 7 (0, z36)) 8 (0, z37)) [] ψ40 y40 Q
            exact hw_vret (a0 := 0) (e := 0) (by decide +kernel) H
          · have H := hf39 q
            refine hw_ald (b := 0) (e := 0) (by decide +kernel) (get_st1 (get_st1 (get_st1 (get_st1 (get_st1 (get_st1 rfl (by decide) (fun q => absurd q.1 (by decide))) (by decide) (fun q => absurd q.1 (by decide))) (by decide) (fun q => absurd q.1 (by decide))) (by decide) (fun q => absurd q.1 (by decide))) (by decide) (fun q => absurd q.1 (by decide))) (by decide) (fun q => absurd q.1 (by decide))) (by decide) ?_
            refine hw_ld (b := 7) (e := 1) (by decide +kernel) (get_st1 get_st1e (by decide) (fun q => tg0 q.2)) ?_
            refine hw_ld (b := 8) (e := 1) (by decide +kernel) get_st1e ?_
            refine hr_call (a0 := 14) (b := 55) (e := 3) (nl := 3) (As := [(0, z36), (0, z37)]) (R := []) 43 rfl (by decide +kernel) rfl rfl (Nat.le_of_ble_eq_true rfl) (Nat.le_of_ble_eq_true rfl) ?_
            refine hw_mono H ?_
            rintro r ψ42 y42 ⟨hyx, hr, H⟩
            subst hyx
            subst hr
            refine ⟨hnen, ?_⟩
            show hw sc (d + 3) 127 114 (jm_st1 (jm_st1 (jm_st1 (jm_st1 (jm_st1 (jm_st1 [(0, (2, 43)), (1, (2, 5)), (2, (2, 188))] 3 (0, φ 6 3)) 4 (0, φ 6 1)) 5 (0, φ 6 2)) 6 (0, z1)) 7 (0, z36)) 8 (0, z37)) [] ψ42 y42 Q
            refine hw_goto (a0 := 0) (b := 0) (e := 134) (by decide +kernel) ?_
            refine hw_ald (b := 0) (e := 0) (by decide +kernel) (get_st1 (get_st1 (get_st1 (get_st1 (get_st1 (get_st1 rfl (by decide) (fun q => absurd q.1 (by decide))) (by decide) (fun q => absurd q.1 (by decide))) (by decide) (fun q => absurd q.1 (by decide))) (by decide) (fun q => absurd q.1 (by decide))) (by decide) (fun q => absurd q.1 (by decide))) (by decide) (fun q => absurd q.1 (by decide))) (by decide) ?_
            refine hw_ald (b := 1) (e := 0) (by decide +kernel) (get_st1 (get_st1 (get_st1 (get_st1 (get_st1 (get_st1 rfl (by decide) (fun q => absurd q.1 (by decide))) (by decide) (fun q => absurd q.1 (by decide))) (by decide) (fun q => absurd q.1 (by decide))) (by decide) (fun q => absurd q.1 (by decide))) (by decide) (fun q => absurd q.1 (by decide))) (by decide) (fun q => absurd q.1 (by decide))) (by decide) ?_
            refine hr_call (a0 := 14) (b := 91) (e := 2) (nl := 6) (As := [(2, 5)]) (R := []) 43 rfl (by decide +kernel) rfl rfl (Nat.le_of_ble_eq_true rfl) (Nat.le_of_ble_eq_true rfl) ?_
            refine hw_mono H ?_
            rintro r ψ43 y43 ⟨hyx, hr, H⟩
            subst hyx
            subst hr
            refine ⟨hnen, ?_⟩
            show hw sc (d + 3) 127 139 (jm_st1 (jm_st1 (jm_st1 (jm_st1 (jm_st1 (jm_st1 [(0, (2, 43)), (1, (2, 5)), (2, (2, 188))] 3 (0, φ 6 3)) 4 (0, φ 6 1)) 5 (0, φ 6 2)) 6 (0, z1)) 7 (0, z36)) 8 (0, z37)) [] ψ43 y43 Q
            exact hw_vret (a0 := 0) (e := 0) (by decide +kernel) H
  · have H := hf2 q
    refine hw_ld (b := 3) (e := 0) (by decide +kernel) (get_st1 (get_st1 (get_st1 get_st1e (by decide) (fun q => tg0 q.2)) (by decide) (fun q => absurd q.1 (by decide))) (by decide) (fun q => absurd q.1 (by decide))) ?_
    obtain ⟨hz45, ht45, hf45⟩ := H
    refine hw_if (a0 := 0) (b := 5) (e := 67) (by decide +kernel) hz45 (fun q => ?_) (fun q => ?_)
    · have H := ht45 q
      refine hw_ld (b := 6) (e := 1) (by decide +kernel) get_st1e ?_
      refine hw_k (c := 1) (b := 0) (e := 1) (by decide +kernel) ?_
      obtain ⟨hz46, hy46, ht46, hf46⟩ := H
      refine hw_if2 (a0 := 0) (b := 1) (e := 117) (by decide +kernel) hz46 hy46 (fun q => ?_) (fun q => ?_)
      · have H := ht46 q
        refine hw_ld (b := 6) (e := 1) (by decide +kernel) get_st1e ?_
        refine hw_k (c := 2) (b := 0) (e := 1) (by decide +kernel) ?_
        obtain ⟨hz47, hy47, ht47, hf47⟩ := H
        refine hw_if2 (a0 := 0) (b := 1) (e := 134) (by decide +kernel) hz47 hy47 (fun q => ?_) (fun q => ?_)
        · have H := ht47 q
          refine hw_ald (b := 0) (e := 0) (by decide +kernel) (get_st1 (get_st1 (get_st1 (get_st1 rfl (by decide) (fun q => absurd q.1 (by decide))) (by decide) (fun q => absurd q.1 (by decide))) (by decide) (fun q => absurd q.1 (by decide))) (by decide) (fun q => absurd q.1 (by decide))) (by decide) ?_
          refine hw_ald (b := 1) (e := 0) (by decide +kernel) (get_st1 (get_st1 (get_st1 (get_st1 rfl (by decide) (fun q => absurd q.1 (by decide))) (by decide) (fun q => absurd q.1 (by decide))) (by decide) (fun q => absurd q.1 (by decide))) (by decide) (fun q => absurd q.1 (by decide))) (by decide) ?_
          refine hr_call (a0 := 14) (b := 91) (e := 2) (nl := 6) (As := [(2, 5)]) (R := []) 43 rfl (by decide +kernel) rfl rfl (Nat.le_of_ble_eq_true rfl) (Nat.le_of_ble_eq_true rfl) ?_
          refine hw_mono H ?_
          rintro r ψ48 y48 ⟨hyx, hr, H⟩
          subst hyx
          subst hr
          refine ⟨hnen, ?_⟩
          show hw sc (d + 3) 127 139 (jm_st1 (jm_st1 (jm_st1 (jm_st1 [(0, (2, 43)), (1, (2, 5)), (2, (2, 188))] 3 (0, φ 6 3)) 4 (0, φ 6 1)) 5 (0, φ 6 2)) 6 (0, z1)) [] ψ48 y48 Q
          exact hw_vret (a0 := 0) (e := 0) (by decide +kernel) H
        · have H := hf47 q
          refine hw_ald (b := 0) (e := 0) (by decide +kernel) (get_st1 (get_st1 (get_st1 (get_st1 rfl (by decide) (fun q => absurd q.1 (by decide))) (by decide) (fun q => absurd q.1 (by decide))) (by decide) (fun q => absurd q.1 (by decide))) (by decide) (fun q => absurd q.1 (by decide))) (by decide) ?_
          refine hr_call (a0 := 14) (b := 87) (e := 1) (nl := 1) (As := []) (R := []) 43 rfl (by decide +kernel) rfl rfl (Nat.le_of_ble_eq_true rfl) (Nat.le_of_ble_eq_true rfl) ?_
          refine hw_mono H ?_
          rintro r ψ50 y50 ⟨hyx, hψx, z50, hr, H⟩
          subst hyx
          subst hψx
          subst hr
          refine ⟨hne0, ?_⟩
          show hw sc (d + 3) 127 127 (jm_st1 (jm_st1 (jm_st1 (jm_st1 [(0, (2, 43)), (1, (2, 5)), (2, (2, 188))] 3 (0, φ 6 3)) 4 (0, φ 6 1)) 5 (0, φ 6 2)) 6 (0, z1)) [(0, z50)] ψ1 y50 Q
          obtain ⟨hz51, ht51, hf51⟩ := H
          refine hw_if (a0 := 0) (b := 1) (e := 134) (by decide +kernel) hz51 (fun q => ?_) (fun q => ?_)
          · have H := ht51 q
            refine hw_ald (b := 0) (e := 0) (by decide +kernel) (get_st1 (get_st1 (get_st1 (get_st1 rfl (by decide) (fun q => absurd q.1 (by decide))) (by decide) (fun q => absurd q.1 (by decide))) (by decide) (fun q => absurd q.1 (by decide))) (by decide) (fun q => absurd q.1 (by decide))) (by decide) ?_
            refine hw_ald (b := 1) (e := 0) (by decide +kernel) (get_st1 (get_st1 (get_st1 (get_st1 rfl (by decide) (fun q => absurd q.1 (by decide))) (by decide) (fun q => absurd q.1 (by decide))) (by decide) (fun q => absurd q.1 (by decide))) (by decide) (fun q => absurd q.1 (by decide))) (by decide) ?_
            refine hr_call (a0 := 14) (b := 91) (e := 2) (nl := 6) (As := [(2, 5)]) (R := []) 43 rfl (by decide +kernel) rfl rfl (Nat.le_of_ble_eq_true rfl) (Nat.le_of_ble_eq_true rfl) ?_
            refine hw_mono H ?_
            rintro r ψ52 y52 ⟨hyx, hr, H⟩
            subst hyx
            subst hr
            refine ⟨hnen, ?_⟩
            show hw sc (d + 3) 127 139 (jm_st1 (jm_st1 (jm_st1 (jm_st1 [(0, (2, 43)), (1, (2, 5)), (2, (2, 188))] 3 (0, φ 6 3)) 4 (0, φ 6 1)) 5 (0, φ 6 2)) 6 (0, z1)) [] ψ52 y52 Q
            exact hw_vret (a0 := 0) (e := 0) (by decide +kernel) H
          · have H := hf51 q
            refine hw_ald (b := 0) (e := 0) (by decide +kernel) (get_st1 (get_st1 (get_st1 (get_st1 rfl (by decide) (fun q => absurd q.1 (by decide))) (by decide) (fun q => absurd q.1 (by decide))) (by decide) (fun q => absurd q.1 (by decide))) (by decide) (fun q => absurd q.1 (by decide))) (by decide) ?_
            refine hr_call (a0 := 14) (b := 88) (e := 1) (nl := 1) (As := []) (R := []) 43 rfl (by decide +kernel) rfl rfl (Nat.le_of_ble_eq_true rfl) (Nat.le_of_ble_eq_true rfl) ?_
            refine hw_mono H ?_
            rintro r ψ54 y54 ⟨hyx, hr, H⟩
            subst hyx
            subst hr
            refine ⟨hnen, ?_⟩
            show hw sc (d + 3) 127 134 (jm_st1 (jm_st1 (jm_st1 (jm_st1 [(0, (2, 43)), (1, (2, 5)), (2, (2, 188))] 3 (0, φ 6 3)) 4 (0, φ 6 1)) 5 (0, φ 6 2)) 6 (0, z1)) [] ψ54 y54 Q
            refine hw_ald (b := 0) (e := 0) (by decide +kernel) (get_st1 (get_st1 (get_st1 (get_st1 rfl (by decide) (fun q => absurd q.1 (by decide))) (by decide) (fun q => absurd q.1 (by decide))) (by decide) (fun q => absurd q.1 (by decide))) (by decide) (fun q => absurd q.1 (by decide))) (by decide) ?_
            refine hw_ald (b := 1) (e := 0) (by decide +kernel) (get_st1 (get_st1 (get_st1 (get_st1 rfl (by decide) (fun q => absurd q.1 (by decide))) (by decide) (fun q => absurd q.1 (by decide))) (by decide) (fun q => absurd q.1 (by decide))) (by decide) (fun q => absurd q.1 (by decide))) (by decide) ?_
            refine hr_call (a0 := 14) (b := 91) (e := 2) (nl := 6) (As := [(2, 5)]) (R := []) 43 rfl (by decide +kernel) rfl rfl (Nat.le_of_ble_eq_true rfl) (Nat.le_of_ble_eq_true rfl) ?_
            refine hw_mono H ?_
            rintro r ψ55 y55 ⟨hyx, hr, H⟩
            subst hyx
            subst hr
            refine ⟨hnen, ?_⟩
            show hw sc (d + 3) 127 139 (jm_st1 (jm_st1 (jm_st1 (jm_st1 [(0, (2, 43)), (1, (2, 5)), (2, (2, 188))] 3 (0, φ 6 3)) 4 (0, φ 6 1)) 5 (0, φ 6 2)) 6 (0, z1)) [] ψ55 y55 Q
            exact hw_vret (a0 := 0) (e := 0) (by decide +kernel) H
      · have H := hf46 q
        refine hw_ld (b := 3) (e := 0) (by decide +kernel) (get_st1 (get_st1 (get_st1 get_st1e (by decide) (fun q => tg0 q.2)) (by decide) (fun q => absurd q.1 (by decide))) (by decide) (fun q => absurd q.1 (by decide))) ?_
        obtain ⟨hz57, ht57, hf57⟩ := H
        refine hw_if (a0 := 0) (b := 5) (e := 117) (by decide +kernel) hz57 (fun q => ?_) (fun q => ?_)
        · have H := ht57 q
          refine hw_ld (b := 6) (e := 1) (by decide +kernel) get_st1e ?_
          refine hw_k (c := 2) (b := 0) (e := 1) (by decide +kernel) ?_
          obtain ⟨hz58, hy58, ht58, hf58⟩ := H
          refine hw_if2 (a0 := 0) (b := 1) (e := 134) (by decide +kernel) hz58 hy58 (fun q => ?_) (fun q => ?_)
          · have H := ht58 q
            refine hw_ald (b := 0) (e := 0) (by decide +kernel) (get_st1 (get_st1 (get_st1 (get_st1 rfl (by decide) (fun q => absurd q.1 (by decide))) (by decide) (fun q => absurd q.1 (by decide))) (by decide) (fun q => absurd q.1 (by decide))) (by decide) (fun q => absurd q.1 (by decide))) (by decide) ?_
            refine hw_ald (b := 1) (e := 0) (by decide +kernel) (get_st1 (get_st1 (get_st1 (get_st1 rfl (by decide) (fun q => absurd q.1 (by decide))) (by decide) (fun q => absurd q.1 (by decide))) (by decide) (fun q => absurd q.1 (by decide))) (by decide) (fun q => absurd q.1 (by decide))) (by decide) ?_
            refine hr_call (a0 := 14) (b := 91) (e := 2) (nl := 6) (As := [(2, 5)]) (R := []) 43 rfl (by decide +kernel) rfl rfl (Nat.le_of_ble_eq_true rfl) (Nat.le_of_ble_eq_true rfl) ?_
            refine hw_mono H ?_
            rintro r ψ59 y59 ⟨hyx, hr, H⟩
            subst hyx
            subst hr
            refine ⟨hnen, ?_⟩
            show hw sc (d + 3) 127 139 (jm_st1 (jm_st1 (jm_st1 (jm_st1 [(0, (2, 43)), (1, (2, 5)), (2, (2, 188))] 3 (0, φ 6 3)) 4 (0, φ 6 1)) 5 (0, φ 6 2)) 6 (0, z1)) [] ψ59 y59 Q
            exact hw_vret (a0 := 0) (e := 0) (by decide +kernel) H
          · have H := hf58 q
            refine hw_ald (b := 0) (e := 0) (by decide +kernel) (get_st1 (get_st1 (get_st1 (get_st1 rfl (by decide) (fun q => absurd q.1 (by decide))) (by decide) (fun q => absurd q.1 (by decide))) (by decide) (fun q => absurd q.1 (by decide))) (by decide) (fun q => absurd q.1 (by decide))) (by decide) ?_
            refine hr_call (a0 := 14) (b := 87) (e := 1) (nl := 1) (As := []) (R := []) 43 rfl (by decide +kernel) rfl rfl (Nat.le_of_ble_eq_true rfl) (Nat.le_of_ble_eq_true rfl) ?_
            refine hw_mono H ?_
            rintro r ψ61 y61 ⟨hyx, hψx, z61, hr, H⟩
            subst hyx
            subst hψx
            subst hr
            refine ⟨hne0, ?_⟩
            show hw sc (d + 3) 127 127 (jm_st1 (jm_st1 (jm_st1 (jm_st1 [(0, (2, 43)), (1, (2, 5)), (2, (2, 188))] 3 (0, φ 6 3)) 4 (0, φ 6 1)) 5 (0, φ 6 2)) 6 (0, z1)) [(0, z61)] ψ1 y61 Q
            obtain ⟨hz62, ht62, hf62⟩ := H
            refine hw_if (a0 := 0) (b := 1) (e := 134) (by decide +kernel) hz62 (fun q => ?_) (fun q => ?_)
            · have H := ht62 q
              refine hw_ald (b := 0) (e := 0) (by decide +kernel) (get_st1 (get_st1 (get_st1 (get_st1 rfl (by decide) (fun q => absurd q.1 (by decide))) (by decide) (fun q => absurd q.1 (by decide))) (by decide) (fun q => absurd q.1 (by decide))) (by decide) (fun q => absurd q.1 (by decide))) (by decide) ?_
              refine hw_ald (b := 1) (e := 0) (by decide +kernel) (get_st1 (get_st1 (get_st1 (get_st1 rfl (by decide) (fun q => absurd q.1 (by decide))) (by decide) (fun q => absurd q.1 (by decide))) (by decide) (fun q => absurd q.1 (by decide))) (by decide) (fun q => absurd q.1 (by decide))) (by decide) ?_
              refine hr_call (a0 := 14) (b := 91) (e := 2) (nl := 6) (As := [(2, 5)]) (R := []) 43 rfl (by decide +kernel) rfl rfl (Nat.le_of_ble_eq_true rfl) (Nat.le_of_ble_eq_true rfl) ?_
              refine hw_mono H ?_
              rintro r ψ63 y63 ⟨hyx, hr, H⟩
              subst hyx
              subst hr
              refine ⟨hnen, ?_⟩
              show hw sc (d + 3) 127 139 (jm_st1 (jm_st1 (jm_st1 (jm_st1 [(0, (2, 43)), (1, (2, 5)), (2, (2, 188))] 3 (0, φ 6 3)) 4 (0, φ 6 1)) 5 (0, φ 6 2)) 6 (0, z1)) [] ψ63 y63 Q
              exact hw_vret (a0 := 0) (e := 0) (by decide +kernel) H
            · have H := hf62 q
              refine hw_ald (b := 0) (e := 0) (by decide +kernel) (get_st1 (get_st1 (get_st1 (get_st1 rfl (by decide) (fun q => absurd q.1 (by decide))) (by decide) (fun q => absurd q.1 (by decide))) (by decide) (fun q => absurd q.1 (by decide))) (by decide) (fun q => absurd q.1 (by decide))) (by decide) ?_
              refine hr_call (a0 := 14) (b := 88) (e := 1) (nl := 1) (As := []) (R := []) 43 rfl (by decide +kernel) rfl rfl (Nat.le_of_ble_eq_true rfl) (Nat.le_of_ble_eq_true rfl) ?_
              refine hw_mono H ?_
              rintro r ψ65 y65 ⟨hyx, hr, H⟩
              subst hyx
              subst hr
              refine ⟨hnen, ?_⟩
              show hw sc (d + 3) 127 134 (jm_st1 (jm_st1 (jm_st1 (jm_st1 [(0, (2, 43)), (1, (2, 5)), (2, (2, 188))] 3 (0, φ 6 3)) 4 (0, φ 6 1)) 5 (0, φ 6 2)) 6 (0, z1)) [] ψ65 y65 Q
              refine hw_ald (b := 0) (e := 0) (by decide +kernel) (get_st1 (get_st1 (get_st1 (get_st1 rfl (by decide) (fun q => absurd q.1 (by decide))) (by decide) (fun q => absurd q.1 (by decide))) (by decide) (fun q => absurd q.1 (by decide))) (by decide) (fun q => absurd q.1 (by decide))) (by decide) ?_
              refine hw_ald (b := 1) (e := 0) (by decide +kernel) (get_st1 (get_st1 (get_st1 (get_st1 rfl (by decide) (fun q => absurd q.1 (by decide))) (by decide) (fun q => absurd q.1 (by decide))) (by decide) (fun q => absurd q.1 (by decide))) (by decide) (fun q => absurd q.1 (by decide))) (by decide) ?_
              refine hr_call (a0 := 14) (b := 91) (e := 2) (nl := 6) (As := [(2, 5)]) (R := []) 43 rfl (by decide +kernel) rfl rfl (Nat.le_of_ble_eq_true rfl) (Nat.le_of_ble_eq_true rfl) ?_
              refine hw_mono H ?_
              rintro r ψ66 y66 ⟨hyx, hr, H⟩
              subst hyx
              subst hr
              refine ⟨hnen, ?_⟩
              show hw sc (d + 3) 127 139 (jm_st1 (jm_st1 (jm_st1 (jm_st1 [(0, (2, 43)), (1, (2, 5)), (2, (2, 188))] 3 (0, φ 6 3)) 4 (0, φ 6 1)) 5 (0, φ 6 2)) 6 (0, z1)) [] ψ66 y66 Q
              exact hw_vret (a0 := 0) (e := 0) (by decide +kernel) H
        · have H := hf57 q
          refine hw_ld (b := 5) (e := 1) (by decide +kernel) (get_st1 get_st1e (by decide) (fun q => tg0 q.2)) ?_
          obtain ⟨hz68, ht68, hf68⟩ := H
          refine hw_if (a0 := 0) (b := 5) (e := 117) (by decide +kernel) hz68 (fun q => ?_) (fun q => ?_)
          · have H := ht68 q
            refine hw_ld (b := 6) (e := 1) (by decide +kernel) get_st1e ?_
            refine hw_k (c := 2) (b := 0) (e := 1) (by decide +kernel) ?_
            obtain ⟨hz69, hy69, ht69, hf69⟩ := H
            refine hw_if2 (a0 := 0) (b := 1) (e := 134) (by decide +kernel) hz69 hy69 (fun q => ?_) (fun q => ?_)
            · have H := ht69 q
              refine hw_ald (b := 0) (e := 0) (by decide +kernel) (get_st1 (get_st1 (get_st1 (get_st1 rfl (by decide) (fun q => absurd q.1 (by decide))) (by decide) (fun q => absurd q.1 (by decide))) (by decide) (fun q => absurd q.1 (by decide))) (by decide) (fun q => absurd q.1 (by decide))) (by decide) ?_
              refine hw_ald (b := 1) (e := 0) (by decide +kernel) (get_st1 (get_st1 (get_st1 (get_st1 rfl (by decide) (fun q => absurd q.1 (by decide))) (by decide) (fun q => absurd q.1 (by decide))) (by decide) (fun q => absurd q.1 (by decide))) (by decide) (fun q => absurd q.1 (by decide))) (by decide) ?_
              refine hr_call (a0 := 14) (b := 91) (e := 2) (nl := 6) (As := [(2, 5)]) (R := []) 43 rfl (by decide +kernel) rfl rfl (Nat.le_of_ble_eq_true rfl) (Nat.le_of_ble_eq_true rfl) ?_
              refine hw_mono H ?_
              rintro r ψ70 y70 ⟨hyx, hr, H⟩
              subst hyx
              subst hr
              refine ⟨hnen, ?_⟩
              show hw sc (d + 3) 127 139 (jm_st1 (jm_st1 (jm_st1 (jm_st1 [(0, (2, 43)), (1, (2, 5)), (2, (2, 188))] 3 (0, φ 6 3)) 4 (0, φ 6 1)) 5 (0, φ 6 2)) 6 (0, z1)) [] ψ70 y70 Q
              exact hw_vret (a0 := 0) (e := 0) (by decide +kernel) H
            · have H := hf69 q
              refine hw_ald (b := 0) (e := 0) (by decide +kernel) (get_st1 (get_st1 (get_st1 (get_st1 rfl (by decide) (fun q => absurd q.1 (by decide))) (by decide) (fun q => absurd q.1 (by decide))) (by decide) (fun q => absurd q.1 (by decide))) (by decide) (fun q => absurd q.1 (by decide))) (by decide) ?_
              refine hr_call (a0 := 14) (b := 87) (e := 1) (nl := 1) (As := []) (R := []) 43 rfl (by decide +kernel) rfl rfl (Nat.le_of_ble_eq_true rfl) (Nat.le_of_ble_eq_true rfl) ?_
              refine hw_mono H ?_
              rintro r ψ72 y72 ⟨hyx, hψx, z72, hr, H⟩
              subst hyx
              subst hψx
              subst hr
              refine ⟨hne0, ?_⟩
              show hw sc (d + 3) 127 127 (jm_st1 (jm_st1 (jm_st1 (jm_st1 [(0, (2, 43)), (1, (2, 5)), (2, (2, 188))] 3 (0, φ 6 3)) 4 (0, φ 6 1)) 5 (0, φ 6 2)) 6 (0, z1)) [(0, z72)] ψ1 y72 Q
              obtain ⟨hz73, ht73, hf73⟩ := H
              refine hw_if (a0 := 0) (b := 1) (e := 134) (by decide +kernel) hz73 (fun q => ?_) (fun q => ?_)
              · have H := ht73 q
                refine hw_ald (b := 0) (e := 0) (by decide +kernel) (get_st1 (get_st1 (get_st1 (get_st1 rfl (by decide) (fun q => absurd q.1 (by decide))) (by decide) (fun q => absurd q.1 (by decide))) (by decide) (fun q => absurd q.1 (by decide))) (by decide) (fun q => absurd q.1 (by decide))) (by decide) ?_
                refine hw_ald (b := 1) (e := 0) (by decide +kernel) (get_st1 (get_st1 (get_st1 (get_st1 rfl (by decide) (fun q => absurd q.1 (by decide))) (by decide) (fun q => absurd q.1 (by decide))) (by decide) (fun q => absurd q.1 (by decide))) (by decide) (fun q => absurd q.1 (by decide))) (by decide) ?_
                refine hr_call (a0 := 14) (b := 91) (e := 2) (nl := 6) (As := [(2, 5)]) (R := []) 43 rfl (by decide +kernel) rfl rfl (Nat.le_of_ble_eq_true rfl) (Nat.le_of_ble_eq_true rfl) ?_
                refine hw_mono H ?_
                rintro r ψ74 y74 ⟨hyx, hr, H⟩
                subst hyx
                subst hr
                refine ⟨hnen, ?_⟩
                show hw sc (d + 3) 127 139 (jm_st1 (jm_st1 (jm_st1 (jm_st1 [(0, (2, 43)), (1, (2, 5)), (2, (2, 188))] 3 (0, φ 6 3)) 4 (0, φ 6 1)) 5 (0, φ 6 2)) 6 (0, z1)) [] ψ74 y74 Q
                exact hw_vret (a0 := 0) (e := 0) (by decide +kernel) H
              · have H := hf73 q
                refine hw_ald (b := 0) (e := 0) (by decide +kernel) (get_st1 (get_st1 (get_st1 (get_st1 rfl (by decide) (fun q => absurd q.1 (by decide))) (by decide) (fun q => absurd q.1 (by decide))) (by decide) (fun q => absurd q.1 (by decide))) (by decide) (fun q => absurd q.1 (by decide))) (by decide) ?_
                refine hr_call (a0 := 14) (b := 88) (e := 1) (nl := 1) (As := []) (R := []) 43 rfl (by decide +kernel) rfl rfl (Nat.le_of_ble_eq_true rfl) (Nat.le_of_ble_eq_true rfl) ?_
                refine hw_mono H ?_
                rintro r ψ76 y76 ⟨hyx, hr, H⟩
                subst hyx
                subst hr
                refine ⟨hnen, ?_⟩
                show hw sc (d + 3) 127 134 (jm_st1 (jm_st1 (jm_st1 (jm_st1 [(0, (2, 43)), (1, (2, 5)), (2, (2, 188))] 3 (0, φ 6 3)) 4 (0, φ 6 1)) 5 (0, φ 6 2)) 6 (0, z1)) [] ψ76 y76 Q
                refine hw_ald (b := 0) (e := 0) (by decide +kernel) (get_st1 (get_st1 (get_st1 (get_st1 rfl (by decide) (fun q => absurd q.1 (by decide))) (by decide) (fun q => absurd q.1 (by decide))) (by decide) (fun q => absurd q.1 (by decide))) (by decide) (fun q => absurd q.1 (by decide))) (by decide) ?_
                refine hw_ald (b := 1) (e := 0) (by decide +kernel) (get_st1 (get_st1 (get_st1 (get_st1 rfl (by decide) (fun q => absurd q.1 (by decide))) (by decide) (fun q => absurd q.1 (by decide))) (by decide) (fun q => absurd q.1 (by decide))) (by decide) (fun q => absurd q.1 (by decide))) (by decide) ?_
                refine hr_call (a0 := 14) (b := 91) (e := 2) (nl := 6) (As := [(2, 5)]) (R := []) 43 rfl (by decide +kernel) rfl rfl (Nat.le_of_ble_eq_true rfl) (Nat.le_of_ble_eq_true rfl) ?_
                refine hw_mono H ?_
                rintro r ψ77 y77 ⟨hyx, hr, H⟩
                subst hyx
                subst hr
                refine ⟨hnen, ?_⟩
                show hw sc (d + 3) 127 139 (jm_st1 (jm_st1 (jm_st1 (jm_st1 [(0, (2, 43)), (1, (2, 5)), (2, (2, 188))] 3 (0, φ 6 3)) 4 (0, φ 6 1)) 5 (0, φ 6 2)) 6 (0, z1)) [] ψ77 y77 Q
                exact hw_vret (a0 := 0) (e := 0) (by decide +kernel) H
          · have H := hf68 q
            refine hw_ald (b := 2) (e := 0) (by decide +kernel) (get_st1 (get_st1 (get_st1 (get_st1 rfl (by decide) (fun q => tg2 q.2)) (by decide) (fun q => absurd q.1 (by decide))) (by decide) (fun q => absurd q.1 (by decide))) (by decide) (fun q => absurd q.1 (by decide))) (by decide) ?_
            refine hw_ld (b := 3) (e := 0) (by decide +kernel) (get_st1 (get_st1 (get_st1 get_st1e (by decide) (fun q => tg0 q.2)) (by decide) (fun q => absurd q.1 (by decide))) (by decide) (fun q => absurd q.1 (by decide))) ?_
            refine hr_call (a0 := 20) (b := 128) (e := 2) (nl := 2) (As := [(0, φ 6 3)]) (R := []) 188 rfl (by decide +kernel) rfl rfl (Nat.le_of_ble_eq_true rfl) (Nat.le_of_ble_eq_true rfl) ?_
            refine hw_mono H ?_
            rintro r ψ79 y79 ⟨hyx, z79, hr, H⟩
            subst hyx
            subst hr
            refine ⟨hne0, ?_⟩
            show hw sc (d + 3) 127 87 (jm_st1 (jm_st1 (jm_st1 (jm_st1 [(0, (2, 43)), (1, (2, 5)), (2, (2, 188))] 3 (0, φ 6 3)) 4 (0, φ 6 1)) 5 (0, φ 6 2)) 6 (0, z1)) [(0, z79)] ψ79 y79 Q
            refine hw_st (L' := (jm_st1 (jm_st1 (jm_st1 (jm_st1 (jm_st1 [(0, (2, 43)), (1, (2, 5)), (2, (2, 188))] 3 (0, φ 6 3)) 4 (0, φ 6 1)) 5 (0, φ 6 2)) 6 (0, z1)) 7 (0, z79))) (b := 7) (e := 1) (by decide +kernel) rfl ?_
            refine hw_ald (b := 2) (e := 0) (by decide +kernel) (get_st1 (get_st1 (get_st1 (get_st1 (get_st1 rfl (by decide) (fun q => tg2 q.2)) (by decide) (fun q => absurd q.1 (by decide))) (by decide) (fun q => absurd q.1 (by decide))) (by decide) (fun q => absurd q.1 (by decide))) (by decide) (fun q => absurd q.1 (by decide))) (by decide) ?_
            refine hw_ld (b := 5) (e := 1) (by decide +kernel) (get_st1 (get_st1 get_st1e (by decide) (fun q => tg0 q.2)) (by decide) (fun q => absurd q.1 (by decide))) ?_
            refine hr_call (a0 := 20) (b := 128) (e := 2) (nl := 2) (As := [(0, φ 6 2)]) (R := []) 188 rfl (by decide +kernel) rfl rfl (Nat.le_of_ble_eq_true rfl) (Nat.le_of_ble_eq_true rfl) ?_
            refine hw_mono H ?_
            rintro r ψ80 y80 ⟨hyx, z80, hr, H⟩
            subst hyx
            subst hr
            refine ⟨hne0, ?_⟩
            show hw sc (d + 3) 127 95 (jm_st1 (jm_st1 (jm_st1 (jm_st1 (jm_st1 [(0, (2, 43)), (1, (2, 5)), (2, (2, 188))] 3 (0, φ 6 3)) 4 (0, φ 6 1)) 5 (0, φ 6 2)) 6 (0, z1)) 7 (0, z79)) [(0, z80)] ψ80 y80 Q
            refine hw_st (L' := (jm_st1 (jm_st1 (jm_st1 (jm_st1 (jm_st1 (jm_st1 [(0, (2, 43)), (1, (2, 5)), (2, (2, 188))] 3 (0, φ 6 3)) 4 (0, φ 6 1)) 5 (0, φ 6 2)) 6 (0, z1)) 7 (0, z79)) 8 (0, z80))) (b := 8) (e := 1) (by decide +kernel) rfl ?_
            refine hw_ald (b := 0) (e := 0) (by decide +kernel) (get_st1 (get_st1 (get_st1 (get_st1 (get_st1 (get_st1 rfl (by decide) (fun q => absurd q.1 (by decide))) (by decide) (fun q => absurd q.1 (by decide))) (by decide) (fun q => absurd q.1 (by decide))) (by decide) (fun q => absurd q.1 (by decide))) (by decide) (fun q => absurd q.1 (by decide))) (by decide) (fun q => absurd q.1 (by decide))) (by decide) ?_
            refine hw_ld (b := 7) (e := 1) (by decide +kernel) (get_st1 get_st1e (by decide) (fun q => tg0 q.2)) ?_
            refine hr_call (a0 := 14) (b := 54) (e := 2) (nl := 2) (As := [(0, z79)]) (R := []) 43 rfl (by decide +kernel) rfl rfl (Nat.le_of_ble_eq_true rfl) (Nat.le_of_ble_eq_true rfl) ?_
            refine hw_mono H ?_
            rintro r ψ81 y81 ⟨hyx, hψx, z81, hr, H⟩
            subst hyx
            subst hψx
            subst hr
            refine ⟨hne0, ?_⟩
            show hw sc (d + 3) 127 103 (jm_st1 (jm_st1 (jm_st1 (jm_st1 (jm_st1 (jm_st1 [(0, (2, 43)), (1, (2, 5)), (2, (2, 188))] 3 (0, φ 6 3)) 4 (0, φ 6 1)) 5 (0, φ 6 2)) 6 (0, z1)) 7 (0, z79)) 8 (0, z80)) [(0, z81)] ψ80 y81 Q
            obtain ⟨hz82, ht82, hf82⟩ := H
            refine hw_if (a0 := 0) (b := 1) (e := 114) (by decide +kernel) hz82 (fun q => ?_) (fun q => ?_)
            · have H := ht82 q
              refine hw_goto (a0 := 0) (b := 0) (e := 134) (by decide +kernel) ?_
              refine hw_ald (b := 0) (e := 0) (by decide +kernel) (get_st1 (get_st1 (get_st1 (get_st1 (get_st1 (get_st1 rfl (by decide) (fun q => absurd q.1 (by decide))) (by decide) (fun q => absurd q.1 (by decide))) (by decide) (fun q => absurd q.1 (by decide))) (by decide) (fun q => absurd q.1 (by decide))) (by decide) (fun q => absurd q.1 (by decide))) (by decide) (fun q => absurd q.1 (by decide))) (by decide) ?_
              refine hw_ald (b := 1) (e := 0) (by decide +kernel) (get_st1 (get_st1 (get_st1 (get_st1 (get_st1 (get_st1 rfl (by decide) (fun q => absurd q.1 (by decide))) (by decide) (fun q => absurd q.1 (by decide))) (by decide) (fun q => absurd q.1 (by decide))) (by decide) (fun q => absurd q.1 (by decide))) (by decide) (fun q => absurd q.1 (by decide))) (by decide) (fun q => absurd q.1 (by decide))) (by decide) ?_
              refine hr_call (a0 := 14) (b := 91) (e := 2) (nl := 6) (As := [(2, 5)]) (R := []) 43 rfl (by decide +kernel) rfl rfl (Nat.le_of_ble_eq_true rfl) (Nat.le_of_ble_eq_true rfl) ?_
              refine hw_mono H ?_
              rintro r ψ83 y83 ⟨hyx, hr, H⟩
              subst hyx
              subst hr
              refine ⟨hnen, ?_⟩
              show hw sc (d + 3) 127 139 (jm_st1 (jm_st1 (jm_st1 (jm_st1 (jm_st1 (jm_st1 [(0, (2, 43)), (1, (2, 5)), (2, (2, 188))] 3 (0, φ 6 3)) 4 (0, φ 6 1)) 5 (0, φ 6 2)) 6 (0, z1)) 7 (0, z79)) 8 (0, z80)) [] ψ83 y83 Q
              exact hw_vret (a0 := 0) (e := 0) (by decide +kernel) H
            · have H := hf82 q
              refine hw_ald (b := 0) (e := 0) (by decide +kernel) (get_st1 (get_st1 (get_st1 (get_st1 (get_st1 (get_st1 rfl (by decide) (fun q => absurd q.1 (by decide))) (by decide) (fun q => absurd q.1 (by decide))) (by decide) (fun q => absurd q.1 (by decide))) (by decide) (fun q => absurd q.1 (by decide))) (by decide) (fun q => absurd q.1 (by decide))) (by decide) (fun q => absurd q.1 (by decide))) (by decide) ?_
              refine hw_ld (b := 7) (e := 1) (by decide +kernel) (get_st1 get_st1e (by decide) (fun q => tg0 q.2)) ?_
              refine hw_ld (b := 8) (e := 1) (by decide +kernel) get_st1e ?_
              refine hr_call (a0 := 14) (b := 55) (e := 3) (nl := 3) (As := [(0, z79), (0, z80)]) (R := []) 43 rfl (by decide +kernel) rfl rfl (Nat.le_of_ble_eq_true rfl) (Nat.le_of_ble_eq_true rfl) ?_
              refine hw_mono H ?_
              rintro r ψ85 y85 ⟨hyx, hr, H⟩
              subst hyx
              subst hr
              refine ⟨hnen, ?_⟩
              show hw sc (d + 3) 127 114 (jm_st1 (jm_st1 (jm_st1 (jm_st1 (jm_st1 (jm_st1 [(0, (2, 43)), (1, (2, 5)), (2, (2, 188))] 3 (0, φ 6 3)) 4 (0, φ 6 1)) 5 (0, φ 6 2)) 6 (0, z1)) 7 (0, z79)) 8 (0, z80)) [] ψ85 y85 Q
              refine hw_goto (a0 := 0) (b := 0) (e := 134) (by decide +kernel) ?_
              refine hw_ald (b := 0) (e := 0) (by decide +kernel) (get_st1 (get_st1 (get_st1 (get_st1 (get_st1 (get_st1 rfl (by decide) (fun q => absurd q.1 (by decide))) (by decide) (fun q => absurd q.1 (by decide))) (by decide) (fun q => absurd q.1 (by decide))) (by decide) (fun q => absurd q.1 (by decide))) (by decide) (fun q => absurd q.1 (by decide))) (by decide) (fun q => absurd q.1 (by decide))) (by decide) ?_
              refine hw_ald (b := 1) (e := 0) (by decide +kernel) (get_st1 (get_st1 (get_st1 (get_st1 (get_st1 (get_st1 rfl (by decide) (fun q => absurd q.1 (by decide))) (by decide) (fun q => absurd q.1 (by decide))) (by decide) (fun q => absurd q.1 (by decide))) (by decide) (fun q => absurd q.1 (by decide))) (by decide) (fun q => absurd q.1 (by decide))) (by decide) (fun q => absurd q.1 (by decide))) (by decide) ?_
              refine hr_call (a0 := 14) (b := 91) (e := 2) (nl := 6) (As := [(2, 5)]) (R := []) 43 rfl (by decide +kernel) rfl rfl (Nat.le_of_ble_eq_true rfl) (Nat.le_of_ble_eq_true rfl) ?_
              refine hw_mono H ?_
              rintro r ψ86 y86 ⟨hyx, hr, H⟩
              subst hyx
              subst hr
              refine ⟨hnen, ?_⟩
              show hw sc (d + 3) 127 139 (jm_st1 (jm_st1 (jm_st1 (jm_st1 (jm_st1 (jm_st1 [(0, (2, 43)), (1, (2, 5)), (2, (2, 188))] 3 (0, φ 6 3)) 4 (0, φ 6 1)) 5 (0, φ 6 2)) 6 (0, z1)) 7 (0, z79)) 8 (0, z80)) [] ψ86 y86 Q
              exact hw_vret (a0 := 0) (e := 0) (by decide +kernel) H
    · have H := hf45 q
      refine hw_ld (b := 4) (e := 1) (by decide +kernel) (get_st1 (get_st1 get_st1e (by decide) (fun q => tg0 q.2)) (by decide) (fun q => absurd q.1 (by decide))) ?_
      obtain ⟨hz88, ht88, hf88⟩ := H
      refine hw_if (a0 := 0) (b := 5) (e := 67) (by decide +kernel) hz88 (fun q => ?_) (fun q => ?_)
      · have H := ht88 q
        refine hw_ld (b := 6) (e := 1) (by decide +kernel) get_st1e ?_
        refine hw_k (c := 1) (b := 0) (e := 1) (by decide +kernel) ?_
        obtain ⟨hz89, hy89, ht89, hf89⟩ := H
        refine hw_if2 (a0 := 0) (b := 1) (e := 117) (by decide +kernel) hz89 hy89 (fun q => ?_) (fun q => ?_)
        · have H := ht89 q
          refine hw_ld (b := 6) (e := 1) (by decide +kernel) get_st1e ?_
          refine hw_k (c := 2) (b := 0) (e := 1) (by decide +kernel) ?_
          obtain ⟨hz90, hy90, ht90, hf90⟩ := H
          refine hw_if2 (a0 := 0) (b := 1) (e := 134) (by decide +kernel) hz90 hy90 (fun q => ?_) (fun q => ?_)
          · have H := ht90 q
            refine hw_ald (b := 0) (e := 0) (by decide +kernel) (get_st1 (get_st1 (get_st1 (get_st1 rfl (by decide) (fun q => absurd q.1 (by decide))) (by decide) (fun q => absurd q.1 (by decide))) (by decide) (fun q => absurd q.1 (by decide))) (by decide) (fun q => absurd q.1 (by decide))) (by decide) ?_
            refine hw_ald (b := 1) (e := 0) (by decide +kernel) (get_st1 (get_st1 (get_st1 (get_st1 rfl (by decide) (fun q => absurd q.1 (by decide))) (by decide) (fun q => absurd q.1 (by decide))) (by decide) (fun q => absurd q.1 (by decide))) (by decide) (fun q => absurd q.1 (by decide))) (by decide) ?_
            refine hr_call (a0 := 14) (b := 91) (e := 2) (nl := 6) (As := [(2, 5)]) (R := []) 43 rfl (by decide +kernel) rfl rfl (Nat.le_of_ble_eq_true rfl) (Nat.le_of_ble_eq_true rfl) ?_
            refine hw_mono H ?_
            rintro r ψ91 y91 ⟨hyx, hr, H⟩
            subst hyx
            subst hr
            refine ⟨hnen, ?_⟩
            show hw sc (d + 3) 127 139 (jm_st1 (jm_st1 (jm_st1 (jm_st1 [(0, (2, 43)), (1, (2, 5)), (2, (2, 188))] 3 (0, φ 6 3)) 4 (0, φ 6 1)) 5 (0, φ 6 2)) 6 (0, z1)) [] ψ91 y91 Q
            exact hw_vret (a0 := 0) (e := 0) (by decide +kernel) H
          · have H := hf90 q
            refine hw_ald (b := 0) (e := 0) (by decide +kernel) (get_st1 (get_st1 (get_st1 (get_st1 rfl (by decide) (fun q => absurd q.1 (by decide))) (by decide) (fun q => absurd q.1 (by decide))) (by decide) (fun q => absurd q.1 (by decide))) (by decide) (fun q => absurd q.1 (by decide))) (by decide) ?_
            refine hr_call (a0 := 14) (b := 87) (e := 1) (nl := 1) (As := []) (R := []) 43 rfl (by decide +kernel) rfl rfl (Nat.le_of_ble_eq_true rfl) (Nat.le_of_ble_eq_true rfl) ?_
            refine hw_mono H ?_
            rintro r ψ93 y93 ⟨hyx, hψx, z93, hr, H⟩
            subst hyx
            subst hψx
            subst hr
            refine ⟨hne0, ?_⟩
            show hw sc (d + 3) 127 127 (jm_st1 (jm_st1 (jm_st1 (jm_st1 [(0, (2, 43)), (1, (2, 5)), (2, (2, 188))] 3 (0, φ 6 3)) 4 (0, φ 6 1)) 5 (0, φ 6 2)) 6 (0, z1)) [(0, z93)] ψ1 y93 Q
            obtain ⟨hz94, ht94, hf94⟩ := H
            refine hw_if (a0 := 0) (b := 1) (e := 134) (by decide +kernel) hz94 (fun q => ?_) (fun q => ?_)
            · have H := ht94 q
              refine hw_ald (b := 0) (e := 0) (by decide +kernel) (get_st1 (get_st1 (get_st1 (get_st1 rfl (by decide) (fun q => absurd q.1 (by decide))) (by decide) (fun q => absurd q.1 (by decide))) (by decide) (fun q => absurd q.1 (by decide))) (by decide) (fun q => absurd q.1 (by decide))) (by decide) ?_
              refine hw_ald (b := 1) (e := 0) (by decide +kernel) (get_st1 (get_st1 (get_st1 (get_st1 rfl (by decide) (fun q => absurd q.1 (by decide))) (by decide) (fun q => absurd q.1 (by decide))) (by decide) (fun q => absurd q.1 (by decide))) (by decide) (fun q => absurd q.1 (by decide))) (by decide) ?_
              refine hr_call (a0 := 14) (b := 91) (e := 2) (nl := 6) (As := [(2, 5)]) (R := []) 43 rfl (by decide +kernel) rfl rfl (Nat.le_of_ble_eq_true rfl) (Nat.le_of_ble_eq_true rfl) ?_
              refine hw_mono H ?_
              rintro r ψ95 y95 ⟨hyx, hr, H⟩
              subst hyx
              subst hr
              refine ⟨hnen, ?_⟩
              show hw sc (d + 3) 127 139 (jm_st1 (jm_st1 (jm_st1 (jm_st1 [(0, (2, 43)), (1, (2, 5)), (2, (2, 188))] 3 (0, φ 6 3)) 4 (0, φ 6 1)) 5 (0, φ 6 2)) 6 (0, z1)) [] ψ95 y95 Q
              exact hw_vret (a0 := 0) (e := 0) (by decide +kernel) H
            · have H := hf94 q
              refine hw_ald (b := 0) (e := 0) (by decide +kernel) (get_st1 (get_st1 (get_st1 (get_st1 rfl (by decide) (fun q => absurd q.1 (by decide))) (by decide) (fun q => absurd q.1 (by decide))) (by decide) (fun q => absurd q.1 (by decide))) (by decide) (fun q => absurd q.1 (by decide))) (by decide) ?_
              refine hr_call (a0 := 14) (b := 88) (e := 1) (nl := 1) (As := []) (R := []) 43 rfl (by decide +kernel) rfl rfl (Nat.le_of_ble_eq_true rfl) (Nat.le_of_ble_eq_true rfl) ?_
              refine hw_mono H ?_
              rintro r ψ97 y97 ⟨hyx, hr, H⟩
              subst hyx
              subst hr
              refine ⟨hnen, ?_⟩
              show hw sc (d + 3) 127 134 (jm_st1 (jm_st1 (jm_st1 (jm_st1 [(0, (2, 43)), (1, (2, 5)), (2, (2, 188))] 3 (0, φ 6 3)) 4 (0, φ 6 1)) 5 (0, φ 6 2)) 6 (0, z1)) [] ψ97 y97 Q
              refine hw_ald (b := 0) (e := 0) (by decide +kernel) (get_st1 (get_st1 (get_st1 (get_st1 rfl (by decide) (fun q => absurd q.1 (by decide))) (by decide) (fun q => absurd q.1 (by decide))) (by decide) (fun q => absurd q.1 (by decide))) (by decide) (fun q => absurd q.1 (by decide))) (by decide) ?_
              refine hw_ald (b := 1) (e := 0) (by decide +kernel) (get_st1 (get_st1 (get_st1 (get_st1 rfl (by decide) (fun q => absurd q.1 (by decide))) (by decide) (fun q => absurd q.1 (by decide))) (by decide) (fun q => absurd q.1 (by decide))) (by decide) (fun q => absurd q.1 (by decide))) (by decide) ?_
              refine hr_call (a0 := 14) (b := 91) (e := 2) (nl := 6) (As := [(2, 5)]) (R := []) 43 rfl (by decide +kernel) rfl rfl (Nat.le_of_ble_eq_true rfl) (Nat.le_of_ble_eq_true rfl) ?_
              refine hw_mono H ?_
              rintro r ψ98 y98 ⟨hyx, hr, H⟩
              subst hyx
              subst hr
              refine ⟨hnen, ?_⟩
              show hw sc (d + 3) 127 139 (jm_st1 (jm_st1 (jm_st1 (jm_st1 [(0, (2, 43)), (1, (2, 5)), (2, (2, 188))] 3 (0, φ 6 3)) 4 (0, φ 6 1)) 5 (0, φ 6 2)) 6 (0, z1)) [] ψ98 y98 Q
              exact hw_vret (a0 := 0) (e := 0) (by decide +kernel) H
        · have H := hf89 q
          refine hw_ld (b := 3) (e := 0) (by decide +kernel) (get_st1 (get_st1 (get_st1 get_st1e (by decide) (fun q => tg0 q.2)) (by decide) (fun q => absurd q.1 (by decide))) (by decide) (fun q => absurd q.1 (by decide))) ?_
          obtain ⟨hz100, ht100, hf100⟩ := H
          refine hw_if (a0 := 0) (b := 5) (e := 117) (by decide +kernel) hz100 (fun q => ?_) (fun q => ?_)
          · have H := ht100 q
            refine hw_ld (b := 6) (e := 1) (by decide +kernel) get_st1e ?_
            refine hw_k (c := 2) (b := 0) (e := 1) (by decide +kernel) ?_
            obtain ⟨hz101, hy101, ht101, hf101⟩ := H
            refine hw_if2 (a0 := 0) (b := 1) (e := 134) (by decide +kernel) hz101 hy101 (fun q => ?_) (fun q => ?_)
            · have H := ht101 q
              refine hw_ald (b := 0) (e := 0) (by decide +kernel) (get_st1 (get_st1 (get_st1 (get_st1 rfl (by decide) (fun q => absurd q.1 (by decide))) (by decide) (fun q => absurd q.1 (by decide))) (by decide) (fun q => absurd q.1 (by decide))) (by decide) (fun q => absurd q.1 (by decide))) (by decide) ?_
              refine hw_ald (b := 1) (e := 0) (by decide +kernel) (get_st1 (get_st1 (get_st1 (get_st1 rfl (by decide) (fun q => absurd q.1 (by decide))) (by decide) (fun q => absurd q.1 (by decide))) (by decide) (fun q => absurd q.1 (by decide))) (by decide) (fun q => absurd q.1 (by decide))) (by decide) ?_
              refine hr_call (a0 := 14) (b := 91) (e := 2) (nl := 6) (As := [(2, 5)]) (R := []) 43 rfl (by decide +kernel) rfl rfl (Nat.le_of_ble_eq_true rfl) (Nat.le_of_ble_eq_true rfl) ?_
              refine hw_mono H ?_
              rintro r ψ102 y102 ⟨hyx, hr, H⟩
              subst hyx
              subst hr
              refine ⟨hnen, ?_⟩
              show hw sc (d + 3) 127 139 (jm_st1 (jm_st1 (jm_st1 (jm_st1 [(0, (2, 43)), (1, (2, 5)), (2, (2, 188))] 3 (0, φ 6 3)) 4 (0, φ 6 1)) 5 (0, φ 6 2)) 6 (0, z1)) [] ψ102 y102 Q
              exact hw_vret (a0 := 0) (e := 0) (by decide +kernel) H
            · have H := hf101 q
              refine hw_ald (b := 0) (e := 0) (by decide +kernel) (get_st1 (get_st1 (get_st1 (get_st1 rfl (by decide) (fun q => absurd q.1 (by decide))) (by decide) (fun q => absurd q.1 (by decide))) (by decide) (fun q => absurd q.1 (by decide))) (by decide) (fun q => absurd q.1 (by decide))) (by decide) ?_
              refine hr_call (a0 := 14) (b := 87) (e := 1) (nl := 1) (As := []) (R := []) 43 rfl (by decide +kernel) rfl rfl (Nat.le_of_ble_eq_true rfl) (Nat.le_of_ble_eq_true rfl) ?_
              refine hw_mono H ?_
              rintro r ψ104 y104 ⟨hyx, hψx, z104, hr, H⟩
              subst hyx
              subst hψx
              subst hr
              refine ⟨hne0, ?_⟩
              show hw sc (d + 3) 127 127 (jm_st1 (jm_st1 (jm_st1 (jm_st1 [(0, (2, 43)), (1, (2, 5)), (2, (2, 188))] 3 (0, φ 6 3)) 4 (0, φ 6 1)) 5 (0, φ 6 2)) 6 (0, z1)) [(0, z104)] ψ1 y104 Q
              obtain ⟨hz105, ht105, hf105⟩ := H
              refine hw_if (a0 := 0) (b := 1) (e := 134) (by decide +kernel) hz105 (fun q => ?_) (fun q => ?_)
              · have H := ht105 q
                refine hw_ald (b := 0) (e := 0) (by decide +kernel) (get_st1 (get_st1 (get_st1 (get_st1 rfl (by decide) (fun q => absurd q.1 (by decide))) (by decide) (fun q => absurd q.1 (by decide))) (by decide) (fun q => absurd q.1 (by decide))) (by decide) (fun q => absurd q.1 (by decide))) (by decide) ?_
                refine hw_ald (b := 1) (e := 0) (by decide +kernel) (get_st1 (get_st1 (get_st1 (get_st1 rfl (by decide) (fun q => absurd q.1 (by decide))) (by decide) (fun q => absurd q.1 (by decide))) (by decide) (fun q => absurd q.1 (by decide))) (by decide) (fun q => absurd q.1 (by decide))) (by decide) ?_
                refine hr_call (a0 := 14) (b := 91) (e := 2) (nl := 6) (As := [(2, 5)]) (R := []) 43 rfl (by decide +kernel) rfl rfl (Nat.le_of_ble_eq_true rfl) (Nat.le_of_ble_eq_true rfl) ?_
                refine hw_mono H ?_
                rintro r ψ106 y106 ⟨hyx, hr, H⟩
                subst hyx
                subst hr
                refine ⟨hnen, ?_⟩
                show hw sc (d + 3) 127 139 (jm_st1 (jm_st1 (jm_st1 (jm_st1 [(0, (2, 43)), (1, (2, 5)), (2, (2, 188))] 3 (0, φ 6 3)) 4 (0, φ 6 1)) 5 (0, φ 6 2)) 6 (0, z1)) [] ψ106 y106 Q
                exact hw_vret (a0 := 0) (e := 0) (by decide +kernel) H
              · have H := hf105 q
                refine hw_ald (b := 0) (e := 0) (by decide +kernel) (get_st1 (get_st1 (get_st1 (get_st1 rfl (by decide) (fun q => absurd q.1 (by decide))) (by decide) (fun q => absurd q.1 (by decide))) (by decide) (fun q => absurd q.1 (by decide))) (by decide) (fun q => absurd q.1 (by decide))) (by decide) ?_
                refine hr_call (a0 := 14) (b := 88) (e := 1) (nl := 1) (As := []) (R := []) 43 rfl (by decide +kernel) rfl rfl (Nat.le_of_ble_eq_true rfl) (Nat.le_of_ble_eq_true rfl) ?_
                refine hw_mono H ?_
                rintro r ψ108 y108 ⟨hyx, hr, H⟩
                subst hyx
                subst hr
                refine ⟨hnen, ?_⟩
                show hw sc (d + 3) 127 134 (jm_st1 (jm_st1 (jm_st1 (jm_st1 [(0, (2, 43)), (1, (2, 5)), (2, (2, 188))] 3 (0, φ 6 3)) 4 (0, φ 6 1)) 5 (0, φ 6 2)) 6 (0, z1)) [] ψ108 y108 Q
                refine hw_ald (b := 0) (e := 0) (by decide +kernel) (get_st1 (get_st1 (get_st1 (get_st1 rfl (by decide) (fun q => absurd q.1 (by decide))) (by decide) (fun q => absurd q.1 (by decide))) (by decide) (fun q => absurd q.1 (by decide))) (by decide) (fun q => absurd q.1 (by decide))) (by decide) ?_
                refine hw_ald (b := 1) (e := 0) (by decide +kernel) (get_st1 (get_st1 (get_st1 (get_st1 rfl (by decide) (fun q => absurd q.1 (by decide))) (by decide) (fun q => absurd q.1 (by decide))) (by decide) (fun q => absurd q.1 (by decide))) (by decide) (fun q => absurd q.1 (by decide))) (by decide) ?_
                refine hr_call (a0 := 14) (b := 91) (e := 2) (nl := 6) (As := [(2, 5)]) (R := []) 43 rfl (by decide +kernel) rfl rfl (Nat.le_of_ble_eq_true rfl) (Nat.le_of_ble_eq_true rfl) ?_
                refine hw_mono H ?_
                rintro r ψ109 y109 ⟨hyx, hr, H⟩
                subst hyx
                subst hr
                refine ⟨hnen, ?_⟩
                show hw sc (d + 3) 127 139 (jm_st1 (jm_st1 (jm_st1 (jm_st1 [(0, (2, 43)), (1, (2, 5)), (2, (2, 188))] 3 (0, φ 6 3)) 4 (0, φ 6 1)) 5 (0, φ 6 2)) 6 (0, z1)) [] ψ109 y109 Q
                exact hw_vret (a0 := 0) (e := 0) (by decide +kernel) H
          · have H := hf100 q
            refine hw_ld (b := 5) (e := 1) (by decide +kernel) (get_st1 get_st1e (by decide) (fun q => tg0 q.2)) ?_
            obtain ⟨hz111, ht111, hf111⟩ := H
            refine hw_if (a0 := 0) (b := 5) (e := 117) (by decide +kernel) hz111 (fun q => ?_) (fun q => ?_)
            · have H := ht111 q
              refine hw_ld (b := 6) (e := 1) (by decide +kernel) get_st1e ?_
              refine hw_k (c := 2) (b := 0) (e := 1) (by decide +kernel) ?_
              obtain ⟨hz112, hy112, ht112, hf112⟩ := H
              refine hw_if2 (a0 := 0) (b := 1) (e := 134) (by decide +kernel) hz112 hy112 (fun q => ?_) (fun q => ?_)
              · have H := ht112 q
                refine hw_ald (b := 0) (e := 0) (by decide +kernel) (get_st1 (get_st1 (get_st1 (get_st1 rfl (by decide) (fun q => absurd q.1 (by decide))) (by decide) (fun q => absurd q.1 (by decide))) (by decide) (fun q => absurd q.1 (by decide))) (by decide) (fun q => absurd q.1 (by decide))) (by decide) ?_
                refine hw_ald (b := 1) (e := 0) (by decide +kernel) (get_st1 (get_st1 (get_st1 (get_st1 rfl (by decide) (fun q => absurd q.1 (by decide))) (by decide) (fun q => absurd q.1 (by decide))) (by decide) (fun q => absurd q.1 (by decide))) (by decide) (fun q => absurd q.1 (by decide))) (by decide) ?_
                refine hr_call (a0 := 14) (b := 91) (e := 2) (nl := 6) (As := [(2, 5)]) (R := []) 43 rfl (by decide +kernel) rfl rfl (Nat.le_of_ble_eq_true rfl) (Nat.le_of_ble_eq_true rfl) ?_
                refine hw_mono H ?_
                rintro r ψ113 y113 ⟨hyx, hr, H⟩
                subst hyx
                subst hr
                refine ⟨hnen, ?_⟩
                show hw sc (d + 3) 127 139 (jm_st1 (jm_st1 (jm_st1 (jm_st1 [(0, (2, 43)), (1, (2, 5)), (2, (2, 188))] 3 (0, φ 6 3)) 4 (0, φ 6 1)) 5 (0, φ 6 2)) 6 (0, z1)) [] ψ113 y113 Q
                exact hw_vret (a0 := 0) (e := 0) (by decide +kernel) H
              · have H := hf112 q
                refine hw_ald (b := 0) (e := 0) (by decide +kernel) (get_st1 (get_st1 (get_st1 (get_st1 rfl (by decide) (fun q => absurd q.1 (by decide))) (by decide) (fun q => absurd q.1 (by decide))) (by decide) (fun q => absurd q.1 (by decide))) (by decide) (fun q => absurd q.1 (by decide))) (by decide) ?_
                refine hr_call (a0 := 14) (b := 87) (e := 1) (nl := 1) (As := []) (R := []) 43 rfl (by decide +kernel) rfl rfl (Nat.le_of_ble_eq_true rfl) (Nat.le_of_ble_eq_true rfl) ?_
                refine hw_mono H ?_
                rintro r ψ115 y115 ⟨hyx, hψx, z115, hr, H⟩
                subst hyx
                subst hψx
                subst hr
                refine ⟨hne0, ?_⟩
                show hw sc (d + 3) 127 127 (jm_st1 (jm_st1 (jm_st1 (jm_st1 [(0, (2, 43)), (1, (2, 5)), (2, (2, 188))] 3 (0, φ 6 3)) 4 (0, φ 6 1)) 5 (0, φ 6 2)) 6 (0, z1)) [(0, z115)] ψ1 y115 Q
                obtain ⟨hz116, ht116, hf116⟩ := H
                refine hw_if (a0 := 0) (b := 1) (e := 134) (by decide +kernel) hz116 (fun q => ?_) (fun q => ?_)
                · have H := ht116 q
                  refine hw_ald (b := 0) (e := 0) (by decide +kernel) (get_st1 (get_st1 (get_st1 (get_st1 rfl (by decide) (fun q => absurd q.1 (by decide))) (by decide) (fun q => absurd q.1 (by decide))) (by decide) (fun q => absurd q.1 (by decide))) (by decide) (fun q => absurd q.1 (by decide))) (by decide) ?_
                  refine hw_ald (b := 1) (e := 0) (by decide +kernel) (get_st1 (get_st1 (get_st1 (get_st1 rfl (by decide) (fun q => absurd q.1 (by decide))) (by decide) (fun q => absurd q.1 (by decide))) (by decide) (fun q => absurd q.1 (by decide))) (by decide) (fun q => absurd q.1 (by decide))) (by decide) ?_
                  refine hr_call (a0 := 14) (b := 91) (e := 2) (nl := 6) (As := [(2, 5)]) (R := []) 43 rfl (by decide +kernel) rfl rfl (Nat.le_of_ble_eq_true rfl) (Nat.le_of_ble_eq_true rfl) ?_
                  refine hw_mono H ?_
                  rintro r ψ117 y117 ⟨hyx, hr, H⟩
                  subst hyx
                  subst hr
                  refine ⟨hnen, ?_⟩
                  show hw sc (d + 3) 127 139 (jm_st1 (jm_st1 (jm_st1 (jm_st1 [(0, (2, 43)), (1, (2, 5)), (2, (2, 188))] 3 (0, φ 6 3)) 4 (0, φ 6 1)) 5 (0, φ 6 2)) 6 (0, z1)) [] ψ117 y117 Q
                  exact hw_vret (a0 := 0) (e := 0) (by decide +kernel) H
                · have H := hf116 q
                  refine hw_ald (b := 0) (e := 0) (by decide +kernel) (get_st1 (get_st1 (get_st1 (get_st1 rfl (by decide) (fun q => absurd q.1 (by decide))) (by decide) (fun q => absurd q.1 (by decide))) (by decide) (fun q => absurd q.1 (by decide))) (by decide) (fun q => absurd q.1 (by decide))) (by decide) ?_
                  refine hr_call (a0 := 14) (b := 88) (e := 1) (nl := 1) (As := []) (R := []) 43 rfl (by decide +kernel) rfl rfl (Nat.le_of_ble_eq_true rfl) (Nat.le_of_ble_eq_true rfl) ?_
                  refine hw_mono H ?_
                  rintro r ψ119 y119 ⟨hyx, hr, H⟩
                  subst hyx
                  subst hr
                  refine ⟨hnen, ?_⟩
                  show hw sc (d + 3) 127 134 (jm_st1 (jm_st1 (jm_st1 (jm_st1 [(0, (2, 43)), (1, (2, 5)), (2, (2, 188))] 3 (0, φ 6 3)) 4 (0, φ 6 1)) 5 (0, φ 6 2)) 6 (0, z1)) [] ψ119 y119 Q
                  refine hw_ald (b := 0) (e := 0) (by decide +kernel) (get_st1 (get_st1 (get_st1 (get_st1 rfl (by decide) (fun q => absurd q.1 (by decide))) (by decide) (fun q => absurd q.1 (by decide))) (by decide) (fun q => absurd q.1 (by decide))) (by decide) (fun q => absurd q.1 (by decide))) (by decide) ?_
                  refine hw_ald (b := 1) (e := 0) (by decide +kernel) (get_st1 (get_st1 (get_st1 (get_st1 rfl (by decide) (fun q => absurd q.1 (by decide))) (by decide) (fun q => absurd q.1 (by decide))) (by decide) (fun q => absurd q.1 (by decide))) (by decide) (fun q => absurd q.1 (by decide))) (by decide) ?_
                  refine hr_call (a0 := 14) (b := 91) (e := 2) (nl := 6) (As := [(2, 5)]) (R := []) 43 rfl (by decide +kernel) rfl rfl (Nat.le_of_ble_eq_true rfl) (Nat.le_of_ble_eq_true rfl) ?_
                  refine hw_mono H ?_
                  rintro r ψ120 y120 ⟨hyx, hr, H⟩
                  subst hyx
                  subst hr
                  refine ⟨hnen, ?_⟩
                  show hw sc (d + 3) 127 139 (jm_st1 (jm_st1 (jm_st1 (jm_st1 [(0, (2, 43)), (1, (2, 5)), (2, (2, 188))] 3 (0, φ 6 3)) 4 (0, φ 6 1)) 5 (0, φ 6 2)) 6 (0, z1)) [] ψ120 y120 Q
                  exact hw_vret (a0 := 0) (e := 0) (by decide +kernel) H
            · have H := hf111 q
              refine hw_ald (b := 2) (e := 0) (by decide +kernel) (get_st1 (get_st1 (get_st1 (get_st1 rfl (by decide) (fun q => tg2 q.2)) (by decide) (fun q => absurd q.1 (by decide))) (by decide) (fun q => absurd q.1 (by decide))) (by decide) (fun q => absurd q.1 (by decide))) (by decide) ?_
              refine hw_ld (b := 3) (e := 0) (by decide +kernel) (get_st1 (get_st1 (get_st1 get_st1e (by decide) (fun q => tg0 q.2)) (by decide) (fun q => absurd q.1 (by decide))) (by decide) (fun q => absurd q.1 (by decide))) ?_
              refine hr_call (a0 := 20) (b := 128) (e := 2) (nl := 2) (As := [(0, φ 6 3)]) (R := []) 188 rfl (by decide +kernel) rfl rfl (Nat.le_of_ble_eq_true rfl) (Nat.le_of_ble_eq_true rfl) ?_
              refine hw_mono H ?_
              rintro r ψ122 y122 ⟨hyx, z122, hr, H⟩
              subst hyx
              subst hr
              refine ⟨hne0, ?_⟩
              show hw sc (d + 3) 127 87 (jm_st1 (jm_st1 (jm_st1 (jm_st1 [(0, (2, 43)), (1, (2, 5)), (2, (2, 188))] 3 (0, φ 6 3)) 4 (0, φ 6 1)) 5 (0, φ 6 2)) 6 (0, z1)) [(0, z122)] ψ122 y122 Q
              refine hw_st (L' := (jm_st1 (jm_st1 (jm_st1 (jm_st1 (jm_st1 [(0, (2, 43)), (1, (2, 5)), (2, (2, 188))] 3 (0, φ 6 3)) 4 (0, φ 6 1)) 5 (0, φ 6 2)) 6 (0, z1)) 7 (0, z122))) (b := 7) (e := 1) (by decide +kernel) rfl ?_
              refine hw_ald (b := 2) (e := 0) (by decide +kernel) (get_st1 (get_st1 (get_st1 (get_st1 (get_st1 rfl (by decide) (fun q => tg2 q.2)) (by decide) (fun q => absurd q.1 (by decide))) (by decide) (fun q => absurd q.1 (by decide))) (by decide) (fun q => absurd q.1 (by decide))) (by decide) (fun q => absurd q.1 (by decide))) (by decide) ?_
              refine hw_ld (b := 5) (e := 1) (by decide +kernel) (get_st1 (get_st1 get_st1e (by decide) (fun q => tg0 q.2)) (by decide) (fun q => absurd q.1 (by decide))) ?_
              refine hr_call (a0 := 20) (b := 128) (e := 2) (nl := 2) (As := [(0, φ 6 2)]) (R := []) 188 rfl (by decide +kernel) rfl rfl (Nat.le_of_ble_eq_true rfl) (Nat.le_of_ble_eq_true rfl) ?_
              refine hw_mono H ?_
              rintro r ψ123 y123 ⟨hyx, z123, hr, H⟩
              subst hyx
              subst hr
              refine ⟨hne0, ?_⟩
              show hw sc (d + 3) 127 95 (jm_st1 (jm_st1 (jm_st1 (jm_st1 (jm_st1 [(0, (2, 43)), (1, (2, 5)), (2, (2, 188))] 3 (0, φ 6 3)) 4 (0, φ 6 1)) 5 (0, φ 6 2)) 6 (0, z1)) 7 (0, z122)) [(0, z123)] ψ123 y123 Q
              refine hw_st (L' := (jm_st1 (jm_st1 (jm_st1 (jm_st1 (jm_st1 (jm_st1 [(0, (2, 43)), (1, (2, 5)), (2, (2, 188))] 3 (0, φ 6 3)) 4 (0, φ 6 1)) 5 (0, φ 6 2)) 6 (0, z1)) 7 (0, z122)) 8 (0, z123))) (b := 8) (e := 1) (by decide +kernel) rfl ?_
              refine hw_ald (b := 0) (e := 0) (by decide +kernel) (get_st1 (get_st1 (get_st1 (get_st1 (get_st1 (get_st1 rfl (by decide) (fun q => absurd q.1 (by decide))) (by decide) (fun q => absurd q.1 (by decide))) (by decide) (fun q => absurd q.1 (by decide))) (by decide) (fun q => absurd q.1 (by decide))) (by decide) (fun q => absurd q.1 (by decide))) (by decide) (fun q => absurd q.1 (by decide))) (by decide) ?_
              refine hw_ld (b := 7) (e := 1) (by decide +kernel) (get_st1 get_st1e (by decide) (fun q => tg0 q.2)) ?_
              refine hr_call (a0 := 14) (b := 54) (e := 2) (nl := 2) (As := [(0, z122)]) (R := []) 43 rfl (by decide +kernel) rfl rfl (Nat.le_of_ble_eq_true rfl) (Nat.le_of_ble_eq_true rfl) ?_
              refine hw_mono H ?_
              rintro r ψ124 y124 ⟨hyx, hψx, z124, hr, H⟩
              subst hyx
              subst hψx
              subst hr
              refine ⟨hne0, ?_⟩
              show hw sc (d + 3) 127 103 (jm_st1 (jm_st1 (jm_st1 (jm_st1 (jm_st1 (jm_st1 [(0, (2, 43)), (1, (2, 5)), (2, (2, 188))] 3 (0, φ 6 3)) 4 (0, φ 6 1)) 5 (0, φ 6 2)) 6 (0, z1)) 7 (0, z122)) 8 (0, z123)) [(0, z124)] ψ123 y124 Q
              obtain ⟨hz125, ht125, hf125⟩ := H
              refine hw_if (a0 := 0) (b := 1) (e := 114) (by decide +kernel) hz125 (fun q => ?_) (fun q => ?_)
              · have H := ht125 q
                refine hw_goto (a0 := 0) (b := 0) (e := 134) (by decide +kernel) ?_
                refine hw_ald (b := 0) (e := 0) (by decide +kernel) (get_st1 (get_st1 (get_st1 (get_st1 (get_st1 (get_st1 rfl (by decide) (fun q => absurd q.1 (by decide))) (by decide) (fun q => absurd q.1 (by decide))) (by decide) (fun q => absurd q.1 (by decide))) (by decide) (fun q => absurd q.1 (by decide))) (by decide) (fun q => absurd q.1 (by decide))) (by decide) (fun q => absurd q.1 (by decide))) (by decide) ?_
                refine hw_ald (b := 1) (e := 0) (by decide +kernel) (get_st1 (get_st1 (get_st1 (get_st1 (get_st1 (get_st1 rfl (by decide) (fun q => absurd q.1 (by decide))) (by decide) (fun q => absurd q.1 (by decide))) (by decide) (fun q => absurd q.1 (by decide))) (by decide) (fun q => absurd q.1 (by decide))) (by decide) (fun q => absurd q.1 (by decide))) (by decide) (fun q => absurd q.1 (by decide))) (by decide) ?_
                refine hr_call (a0 := 14) (b := 91) (e := 2) (nl := 6) (As := [(2, 5)]) (R := []) 43 rfl (by decide +kernel) rfl rfl (Nat.le_of_ble_eq_true rfl) (Nat.le_of_ble_eq_true rfl) ?_
                refine hw_mono H ?_
                rintro r ψ126 y126 ⟨hyx, hr, H⟩
                subst hyx
                subst hr
                refine ⟨hnen, ?_⟩
                show hw sc (d + 3) 127 139 (jm_st1 (jm_st1 (jm_st1 (jm_st1 (jm_st1 (jm_st1 [(0, (2, 43)), (1, (2, 5)), (2, (2, 188))] 3 (0, φ 6 3)) 4 (0, φ 6 1)) 5 (0, φ 6 2)) 6 (0, z1)) 7 (0, z122)) 8 (0, z123)) [] ψ126 y126 Q
                exact hw_vret (a0 := 0) (e := 0) (by decide +kernel) H
              · have H := hf125 q
                refine hw_ald (b := 0) (e := 0) (by decide +kernel) (get_st1 (get_st1 (get_st1 (get_st1 (get_st1 (get_st1 rfl (by decide) (fun q => absurd q.1 (by decide))) (by decide) (fun q => absurd q.1 (by decide))) (by decide) (fun q => absurd q.1 (by decide))) (by decide) (fun q => absurd q.1 (by decide))) (by decide) (fun q => absurd q.1 (by decide))) (by decide) (fun q => absurd q.1 (by decide))) (by decide) ?_
                refine hw_ld (b := 7) (e := 1) (by decide +kernel) (get_st1 get_st1e (by decide) (fun q => tg0 q.2)) ?_
                refine hw_ld (b := 8) (e := 1) (by decide +kernel) get_st1e ?_
                refine hr_call (a0 := 14) (b := 55) (e := 3) (nl := 3) (As := [(0, z122), (0, z123)]) (R := []) 43 rfl (by decide +kernel) rfl rfl (Nat.le_of_ble_eq_true rfl) (Nat.le_of_ble_eq_true rfl) ?_
                refine hw_mono H ?_
                rintro r ψ128 y128 ⟨hyx, hr, H⟩
                subst hyx
                subst hr
                refine ⟨hnen, ?_⟩
                show hw sc (d + 3) 127 114 (jm_st1 (jm_st1 (jm_st1 (jm_st1 (jm_st1 (jm_st1 [(0, (2, 43)), (1, (2, 5)), (2, (2, 188))] 3 (0, φ 6 3)) 4 (0, φ 6 1)) 5 (0, φ 6 2)) 6 (0, z1)) 7 (0, z122)) 8 (0, z123)) [] ψ128 y128 Q
                refine hw_goto (a0 := 0) (b := 0) (e := 134) (by decide +kernel) ?_
                refine hw_ald (b := 0) (e := 0) (by decide +kernel) (get_st1 (get_st1 (get_st1 (get_st1 (get_st1 (get_st1 rfl (by decide) (fun q => absurd q.1 (by decide))) (by decide) (fun q => absurd q.1 (by decide))) (by decide) (fun q => absurd q.1 (by decide))) (by decide) (fun q => absurd q.1 (by decide))) (by decide) (fun q => absurd q.1 (by decide))) (by decide) (fun q => absurd q.1 (by decide))) (by decide) ?_
                refine hw_ald (b := 1) (e := 0) (by decide +kernel) (get_st1 (get_st1 (get_st1 (get_st1 (get_st1 (get_st1 rfl (by decide) (fun q => absurd q.1 (by decide))) (by decide) (fun q => absurd q.1 (by decide))) (by decide) (fun q => absurd q.1 (by decide))) (by decide) (fun q => absurd q.1 (by decide))) (by decide) (fun q => absurd q.1 (by decide))) (by decide) (fun q => absurd q.1 (by decide))) (by decide) ?_
                refine hr_call (a0 := 14) (b := 91) (e := 2) (nl := 6) (As := [(2, 5)]) (R := []) 43 rfl (by decide +kernel) rfl rfl (Nat.le_of_ble_eq_true rfl) (Nat.le_of_ble_eq_true rfl) ?_
                refine hw_mono H ?_
                rintro r ψ129 y129 ⟨hyx, hr, H⟩
                subst hyx
                subst hr
                refine ⟨hnen, ?_⟩
                show hw sc (d + 3) 127 139 (jm_st1 (jm_st1 (jm_st1 (jm_st1 (jm_st1 (jm_st1 [(0, (2, 43)), (1, (2, 5)), (2, (2, 188))] 3 (0, φ 6 3)) 4 (0, φ 6 1)) 5 (0, φ 6 2)) 6 (0, z1)) 7 (0, z122)) 8 (0, z123)) [] ψ129 y129 Q
                exact hw_vret (a0 := 0) (e := 0) (by decide +kernel) H
      · have H := hf88 q
        refine hw_ald (b := 2) (e := 0) (by decide +kernel) (get_st1 (get_st1 (get_st1 (get_st1 rfl (by decide) (fun q => tg2 q.2)) (by decide) (fun q => absurd q.1 (by decide))) (by decide) (fun q => absurd q.1 (by decide))) (by decide) (fun q => absurd q.1 (by decide))) (by decide) ?_
        refine hw_ld (b := 3) (e := 0) (by decide +kernel) (get_st1 (get_st1 (get_st1 get_st1e (by decide) (fun q => tg0 q.2)) (by decide) (fun q => absurd q.1 (by decide))) (by decide) (fun q => absurd q.1 (by decide))) ?_
        refine hr_call (a0 := 20) (b := 128) (e := 2) (nl := 2) (As := [(0, φ 6 3)]) (R := []) 188 rfl (by decide +kernel) rfl rfl (Nat.le_of_ble_eq_true rfl) (Nat.le_of_ble_eq_true rfl) ?_
        refine hw_mono H ?_
        rintro r ψ131 y131 ⟨hyx, z131, hr, H⟩
        subst hyx
        subst hr
        refine ⟨hne0, ?_⟩
        show hw sc (d + 3) 127 50 (jm_st1 (jm_st1 (jm_st1 (jm_st1 [(0, (2, 43)), (1, (2, 5)), (2, (2, 188))] 3 (0, φ 6 3)) 4 (0, φ 6 1)) 5 (0, φ 6 2)) 6 (0, z1)) [(0, z131)] ψ131 y131 Q
        refine hw_st (L' := (jm_st1 (jm_st1 (jm_st1 (jm_st1 (jm_st1 [(0, (2, 43)), (1, (2, 5)), (2, (2, 188))] 3 (0, φ 6 3)) 4 (0, φ 6 1)) 5 (0, φ 6 2)) 6 (0, z1)) 7 (0, z131))) (b := 7) (e := 1) (by decide +kernel) rfl ?_
        refine hw_ald (b := 0) (e := 0) (by decide +kernel) (get_st1 (get_st1 (get_st1 (get_st1 (get_st1 rfl (by decide) (fun q => absurd q.1 (by decide))) (by decide) (fun q => absurd q.1 (by decide))) (by decide) (fun q => absurd q.1 (by decide))) (by decide) (fun q => absurd q.1 (by decide))) (by decide) (fun q => absurd q.1 (by decide))) (by decide) ?_
        refine hw_ld (b := 7) (e := 1) (by decide +kernel) get_st1e ?_
        refine hw_ald (b := 2) (e := 0) (by decide +kernel) (get_st1 (get_st1 (get_st1 (get_st1 (get_st1 rfl (by decide) (fun q => tg2 q.2)) (by decide) (fun q => absurd q.1 (by decide))) (by decide) (fun q => absurd q.1 (by decide))) (by decide) (fun q => absurd q.1 (by decide))) (by decide) (fun q => absurd q.1 (by decide))) (by decide) ?_
        refine hw_ld (b := 4) (e := 1) (by decide +kernel) (get_st1 (get_st1 (get_st1 get_st1e (by decide) (fun q => tg0 q.2)) (by decide) (fun q => absurd q.1 (by decide))) (by decide) (fun q => absurd q.1 (by decide))) ?_
        refine hr_call (a0 := 20) (b := 128) (e := 2) (nl := 2) (As := [(0, φ 6 1)]) (R := [(0, z131), (2, 43)]) 188 rfl (by decide +kernel) rfl rfl (Nat.le_of_ble_eq_true rfl) (Nat.le_of_ble_eq_true rfl) ?_
        refine hw_mono H ?_
        rintro r ψ132 y132 ⟨hyx, z132, hr, H⟩
        subst hyx
        subst hr
        refine ⟨hne0, ?_⟩
        show hw sc (d + 3) 127 61 (jm_st1 (jm_st1 (jm_st1 (jm_st1 (jm_st1 [(0, (2, 43)), (1, (2, 5)), (2, (2, 188))] 3 (0, φ 6 3)) 4 (0, φ 6 1)) 5 (0, φ 6 2)) 6 (0, z1)) 7 (0, z131)) [(0, z132), (0, z131), (2, 43)] ψ132 y132 Q
        refine hr_call (a0 := 14) (b := 129) (e := 3) (nl := 3) (As := [(0, z131), (0, z132)]) (R := []) 43 rfl (by decide +kernel) rfl rfl (Nat.le_of_ble_eq_true rfl) (Nat.le_of_ble_eq_true rfl) ?_
        refine hw_mono H ?_
        rintro r ψ133 y133 ⟨hyx, hr, H⟩
        subst hyx
        subst hr
        refine ⟨hnen, ?_⟩
        show hw sc (d + 3) 127 64 (jm_st1 (jm_st1 (jm_st1 (jm_st1 (jm_st1 [(0, (2, 43)), (1, (2, 5)), (2, (2, 188))] 3 (0, φ 6 3)) 4 (0, φ 6 1)) 5 (0, φ 6 2)) 6 (0, z1)) 7 (0, z131)) [] ψ133 y133 Q
        refine hw_goto (a0 := 0) (b := 0) (e := 134) (by decide +kernel) ?_
        refine hw_ald (b := 0) (e := 0) (by decide +kernel) (get_st1 (get_st1 (get_st1 (get_st1 (get_st1 rfl (by decide) (fun q => absurd q.1 (by decide))) (by decide) (fun q => absurd q.1 (by decide))) (by decide) (fun q => absurd q.1 (by decide))) (by decide) (fun q => absurd q.1 (by decide))) (by decide) (fun q => absurd q.1 (by decide))) (by decide) ?_
        refine hw_ald (b := 1) (e := 0) (by decide +kernel) (get_st1 (get_st1 (get_st1 (get_st1 (get_st1 rfl (by decide) (fun q => absurd q.1 (by decide))) (by decide) (fun q => absurd q.1 (by decide))) (by decide) (fun q => absurd q.1 (by decide))) (by decide) (fun q => absurd q.1 (by decide))) (by decide) (fun q => absurd q.1 (by decide))) (by decide) ?_
        refine hr_call (a0 := 14) (b := 91) (e := 2) (nl := 6) (As := [(2, 5)]) (R := []) 43 rfl (by decide +kernel) rfl rfl (Nat.le_of_ble_eq_true rfl) (Nat.le_of_ble_eq_true rfl) ?_
        refine hw_mono H ?_
        rintro r ψ134 y134 ⟨hyx, hr, H⟩
        subst hyx
        subst hr
        refine ⟨hnen, ?_⟩
        show hw sc (d + 3) 127 139 (jm_st1 (jm_st1 (jm_st1 (jm_st1 (jm_st1 [(0, (2, 43)), (1, (2, 5)), (2, (2, 188))] 3 (0, φ 6 3)) 4 (0, φ 6 1)) 5 (0, φ 6 2)) 6 (0, z1)) 7 (0, z131)) [] ψ134 y134 Q
        exact hw_vret (a0 := 0) (e := 0) (by decide +kernel) H
theorem sf_127_43_5_188 {sc : List Int} {d : Nat} {φ : hf_F} {x : Nat} {Q : Option jm_V → hf_F → Nat → Prop}  (hI : Inv φ)  (hQ : ∀ ψ : hf_F, Inv ψ → Fr [44, 45, 46, 47, 48, 49, 50, 51, 44000, 44001, 44002, 44003, 44004, 44005, 189000] φ ψ → F_State_turnDrawn_43_5_188 φ = ψ → Q none ψ x) : hw sc (d + 3) 127 0 [(0, (2, 43)), (1, (2, 5)), (2, (2, 188))] [] φ x Q := by
  apply sf_127_43_5_188_v
  have e0 : F_State_turnDrawn_43_5_188 φ = _ := rfl
  have f1 := iv_at (a := 6) (k := 3) (lo := 0) (u := 6) hI (by decide +kernel)
  have f2 := iv_at (a := 6) (k := 1) (lo := 0) (u := 8) hI (by decide +kernel)
  have f3 := iv_at (a := 6) (k := 2) (lo := 0) (u := 8) hI (by decide +kernel)
  refine sf_128_188 (φ := φ) hI (by omega) (by omega) (fun z1 ψ1 hI1 hF1 hp1 hE1 => ⟨rfl, z1, rfl, ?_⟩)
  have hG1 : Fr [44, 45, 46, 47, 48, 49, 50, 51, 44000, 44001, 44002, 44003, 44004, 44005, 189000] φ ψ1 := fr_tr (fr_rf) hF1 (by decide)
  have e1 := e0.trans (bnd_e hE1)
  refine ⟨by unfold hi; omega, fun q2 => ?_, fun q2 => ?_⟩
  · skip
    have e2a := e1.trans (if_pos q2)
    refine ⟨by unfold hi; omega, by unfold hi; omega, fun q3 => ?_, fun q3 => ?_⟩
    · skip
      have e3a := e2a.trans (if_pos q3)
      refine ⟨by unfold hi; omega, by unfold hi; omega, fun q4 => ?_, fun q4 => ?_⟩
      · skip
        have e4a := e3a.trans (if_pos q4)
        refine sf_91_43_5 (φ := ψ1) hI1  (fun ψ5 hI5 hF5 hE5 => ⟨rfl, rfl, ?_⟩)
        have hG5 : Fr [44, 45, 46, 47, 48, 49, 50, 51, 44000, 44001, 44002, 44003, 44004, 44005, 189000] φ ψ5 := fr_tr hG1 hF5 (by decide)
        have e5 := e4a.trans (bnv_e hE5)
        exact hQ ψ5 hI5 hG5 e5
      · skip
        have e4b := e3a.trans (if_neg q4)
        refine sf_87_43 (φ := ψ1) hI1  (fun z7 hp7 hE7 => ⟨rfl, rfl, z7, rfl, ?_⟩)
        have e7 := e4b.trans (bnp_e hE7)
        refine ⟨by unfold hi; omega, fun q8 => ?_, fun q8 => ?_⟩
        · skip
          have e8a := e7.trans (if_pos q8)
          refine sf_91_43_5 (φ := ψ1) hI1  (fun ψ9 hI9 hF9 hE9 => ⟨rfl, rfl, ?_⟩)
          have hG9 : Fr [44, 45, 46, 47, 48, 49, 50, 51, 44000, 44001, 44002, 44003, 44004, 44005, 189000] φ ψ9 := fr_tr hG1 hF9 (by decide)
          have e9 := e8a.trans (bnv_e hE9)
          exact hQ ψ9 hI9 hG9 e9
        · skip
          have e8b := e7.trans (if_neg q8)
          refine sf_88_43 (φ := ψ1) hI1  (fun ψ11 hI11 hF11 hE11 => ⟨rfl, rfl, ?_⟩)
          have hG11 : Fr [44, 45, 46, 47, 48, 49, 50, 51, 44000, 44001, 44002, 44003, 44004, 44005, 189000] φ ψ11 := fr_tr hG1 hF11 (by decide)
          have e11 := e8b.trans (bnv_e hE11)
          refine sf_91_43_5 (φ := ψ11) hI11  (fun ψ12 hI12 hF12 hE12 => ⟨rfl, rfl, ?_⟩)
          have hG12 : Fr [44, 45, 46, 47, 48, 49, 50, 51, 44000, 44001, 44002, 44003, 44004, 44005, 189000] φ ψ12 := fr_tr hG11 hF12 (by decide)
          have e12 := e11.trans (bnv_e hE12)
          exact hQ ψ12 hI12 hG12 e12
    · skip
      have e3b := e2a.trans (if_neg q3)
      refine ⟨by unfold hi; omega, fun q14 => ?_, fun q14 => ?_⟩
      · skip
        have e14a := e3b.trans (if_pos q14)
        refine ⟨by unfold hi; omega, by unfold hi; omega, fun q15 => ?_, fun q15 => ?_⟩
        · skip
          have e15a := e14a.trans (if_pos q15)
          refine sf_91_43_5 (φ := ψ1) hI1  (fun ψ16 hI16 hF16 hE16 => ⟨rfl, rfl, ?_⟩)
          have hG16 : Fr [44, 45, 46, 47, 48, 49, 50, 51, 44000, 44001, 44002, 44003, 44004, 44005, 189000] φ ψ16 := fr_tr hG1 hF16 (by decide)
          have e16 := e15a.trans (bnv_e hE16)
          exact hQ ψ16 hI16 hG16 e16
        · skip
          have e15b := e14a.trans (if_neg q15)
          refine sf_87_43 (φ := ψ1) hI1  (fun z18 hp18 hE18 => ⟨rfl, rfl, z18, rfl, ?_⟩)
          have e18 := e15b.trans (bnp_e hE18)
          refine ⟨by unfold hi; omega, fun q19 => ?_, fun q19 => ?_⟩
          · skip
            have e19a := e18.trans (if_pos q19)
            refine sf_91_43_5 (φ := ψ1) hI1  (fun ψ20 hI20 hF20 hE20 => ⟨rfl, rfl, ?_⟩)
            have hG20 : Fr [44, 45, 46, 47, 48, 49, 50, 51, 44000, 44001, 44002, 44003, 44004, 44005, 189000] φ ψ20 := fr_tr hG1 hF20 (by decide)
            have e20 := e19a.trans (bnv_e hE20)
            exact hQ ψ20 hI20 hG20 e20
          · skip
            have e19b := e18.trans (if_neg q19)
            refine sf_88_43 (φ := ψ1) hI1  (fun ψ22 hI22 hF22 hE22 => ⟨rfl, rfl, ?_⟩)
            have hG22 : Fr [44, 45, 46, 47, 48, 49, 50, 51, 44000, 44001, 44002, 44003, 44004, 44005, 189000] φ ψ22 := fr_tr hG1 hF22 (by decide)
            have e22 := e19b.trans (bnv_e hE22)
            refine sf_91_43_5 (φ := ψ22) hI22  (fun ψ23 hI23 hF23 hE23 => ⟨rfl, rfl, ?_⟩)
            have hG23 : Fr [44, 45, 46, 47, 48, 49, 50, 51, 44000, 44001, 44002, 44003, 44004, 44005, 189000] φ ψ23 := fr_tr hG22 hF23 (by decide)
            have e23 := e22.trans (bnv_e hE23)
            exact hQ ψ23 hI23 hG23 e23
      · skip
        have e14b := e3b.trans (if_neg q14)
        refine ⟨by unfold hi; omega, fun q25 => ?_, fun q25 => ?_⟩
        · skip
          have e25a := e14b.trans (if_pos q25)
          refine ⟨by unfold hi; omega, by unfold hi; omega, fun q26 => ?_, fun q26 => ?_⟩
          · skip
            have e26a := e25a.trans (if_pos q26)
            refine sf_91_43_5 (φ := ψ1) hI1  (fun ψ27 hI27 hF27 hE27 => ⟨rfl, rfl, ?_⟩)
            have hG27 : Fr [44, 45, 46, 47, 48, 49, 50, 51, 44000, 44001, 44002, 44003, 44004, 44005, 189000] φ ψ27 := fr_tr hG1 hF27 (by decide)
            have e27 := e26a.trans (bnv_e hE27)
            exact hQ ψ27 hI27 hG27 e27
          · skip
            have e26b := e25a.trans (if_neg q26)
            refine sf_87_43 (φ := ψ1) hI1  (fun z29 hp29 hE29 => ⟨rfl, rfl, z29, rfl, ?_⟩)
            have e29 := e26b.trans (bnp_e hE29)
            refine ⟨by unfold hi; omega, fun q30 => ?_, fun q30 => ?_⟩
            · skip
              have e30a := e29.trans (if_pos q30)
              refine sf_91_43_5 (φ := ψ1) hI1  (fun ψ31 hI31 hF31 hE31 => ⟨rfl, rfl, ?_⟩)
              have hG31 : Fr [44, 45, 46, 47, 48, 49, 50, 51, 44000, 44001, 44002, 44003, 44004, 44005, 189000] φ ψ31 := fr_tr hG1 hF31 (by decide)
              have e31 := e30a.trans (bnv_e hE31)
              exact hQ ψ31 hI31 hG31 e31
            · skip
              have e30b := e29.trans (if_neg q30)
              refine sf_88_43 (φ := ψ1) hI1  (fun ψ33 hI33 hF33 hE33 => ⟨rfl, rfl, ?_⟩)
              have hG33 : Fr [44, 45, 46, 47, 48, 49, 50, 51, 44000, 44001, 44002, 44003, 44004, 44005, 189000] φ ψ33 := fr_tr hG1 hF33 (by decide)
              have e33 := e30b.trans (bnv_e hE33)
              refine sf_91_43_5 (φ := ψ33) hI33  (fun ψ34 hI34 hF34 hE34 => ⟨rfl, rfl, ?_⟩)
              have hG34 : Fr [44, 45, 46, 47, 48, 49, 50, 51, 44000, 44001, 44002, 44003, 44004, 44005, 189000] φ ψ34 := fr_tr hG33 hF34 (by decide)
              have e34 := e33.trans (bnv_e hE34)
              exact hQ ψ34 hI34 hG34 e34
        · skip
          have e25b := e14b.trans (if_neg q25)
          refine sf_128_188 (φ := ψ1) hI1 (by omega) (by omega) (fun z36 ψ36 hI36 hF36 hp36 hE36 => ⟨rfl, z36, rfl, ?_⟩)
          have hG36 : Fr [44, 45, 46, 47, 48, 49, 50, 51, 44000, 44001, 44002, 44003, 44004, 44005, 189000] φ ψ36 := fr_tr hG1 hF36 (by decide)
          have e36 := e25b.trans (bnd_e hE36)
          refine sf_128_188 (φ := ψ36) hI36 (by omega) (by omega) (fun z37 ψ37 hI37 hF37 hp37 hE37 => ⟨rfl, z37, rfl, ?_⟩)
          have hG37 : Fr [44, 45, 46, 47, 48, 49, 50, 51, 44000, 44001, 44002, 44003, 44004, 44005, 189000] φ ψ37 := fr_tr hG36 hF37 (by decide)
          have e37 := e36.trans (bnd_e hE37)
          refine sf_54_43 (φ := ψ37) hI37 (by omega) (by omega) (fun z38 hp38 hE38 => ⟨rfl, rfl, z38, rfl, ?_⟩)
          have e38 := e37.trans (bnp_e hE38)
          have f4 := iv_ar (a := 47) (s := 0) (t := 6) (lo := 0) (u := 6) (z := z36) hI37 (by decide +kernel) (by omega) (by omega)
          have f5 : ψ37 47 ((z36).toNat) = ψ36 47 ((z36).toNat) := (fr_at hF37 47 (by decide) ((z36).toNat))
          have f6 := iv_ar (a := 47) (s := 0) (t := 6) (lo := 0) (u := 6) (z := z36) hI36 (by decide +kernel) (by omega) (by omega)
          have f7 : ψ36 47 ((z36).toNat) = ψ1 47 ((z36).toNat) := (fr_at hF36 47 (by decide) ((z36).toNat))
          have f8 := iv_ar (a := 47) (s := 0) (t := 6) (lo := 0) (u := 6) (z := z36) hI1 (by decide +kernel) (by omega) (by omega)
          have f9 : ψ1 47 ((z36).toNat) = φ 47 ((z36).toNat) := (fr_at hF1 47 (by decide) ((z36).toNat))
          have f10 := iv_ar (a := 47) (s := 0) (t := 6) (lo := 0) (u := 6) (z := z36) hI (by decide +kernel) (by omega) (by omega)
          refine ⟨by unfold hi; omega, fun q39 => ?_, fun q39 => ?_⟩
          · skip
            have e39a := e38.trans (if_pos q39)
            refine sf_91_43_5 (φ := ψ37) hI37  (fun ψ40 hI40 hF40 hE40 => ⟨rfl, rfl, ?_⟩)
            have hG40 : Fr [44, 45, 46, 47, 48, 49, 50, 51, 44000, 44001, 44002, 44003, 44004, 44005, 189000] φ ψ40 := fr_tr hG37 hF40 (by decide)
            have e40 := e39a.trans (bnv_e hE40)
            exact hQ ψ40 hI40 hG40 e40
          · skip
            have e39b := e38.trans (if_neg q39)
            refine sf_55_43 (φ := ψ37) hI37 (by omega) (by omega) (by omega) (by omega) (by rw [show ψ37 47 ((z36).toNat) = ψ37 47 ((z36).toNat) from rfl]; constructor <;> omega) (fun ψ42 hI42 hF42 hE42 => ⟨rfl, rfl, ?_⟩)
            have hG42 : Fr [44, 45, 46, 47, 48, 49, 50, 51, 44000, 44001, 44002, 44003, 44004, 44005, 189000] φ ψ42 := fr_tr hG37 hF42 (by decide)
            have e42 := e39b.trans (bnv_e hE42)
            refine sf_91_43_5 (φ := ψ42) hI42  (fun ψ43 hI43 hF43 hE43 => ⟨rfl, rfl, ?_⟩)
            have hG43 : Fr [44, 45, 46, 47, 48, 49, 50, 51, 44000, 44001, 44002, 44003, 44004, 44005, 189000] φ ψ43 := fr_tr hG42 hF43 (by decide)
            have e43 := e42.trans (bnv_e hE43)
            exact hQ ψ43 hI43 hG43 e43
  · skip
    have e2b := e1.trans (if_neg q2)
    refine ⟨by unfold hi; omega, fun q45 => ?_, fun q45 => ?_⟩
    · skip
      have e45a := e2b.trans (if_pos q45)
      refine ⟨by unfold hi; omega, by unfold hi; omega, fun q46 => ?_, fun q46 => ?_⟩
      · skip
        have e46a := e45a.trans (if_pos q46)
        refine ⟨by unfold hi; omega, by unfold hi; omega, fun q47 => ?_, fun q47 => ?_⟩
        · skip
          have e47a := e46a.trans (if_pos q47)
          refine sf_91_43_5 (φ := ψ1) hI1  (fun ψ48 hI48 hF48 hE48 => ⟨rfl, rfl, ?_⟩)
          have hG48 : Fr [44, 45, 46, 47, 48, 49, 50, 51, 44000, 44001, 44002, 44003, 44004, 44005, 189000] φ ψ48 := fr_tr hG1 hF48 (by decide)
          have e48 := e47a.trans (bnv_e hE48)
          exact hQ ψ48 hI48 hG48 e48
        · skip
          have e47b := e46a.trans (if_neg q47)
          refine sf_87_43 (φ := ψ1) hI1  (fun z50 hp50 hE50 => ⟨rfl, rfl, z50, rfl, ?_⟩)
          have e50 := e47b.trans (bnp_e hE50)
          refine ⟨by unfold hi; omega, fun q51 => ?_, fun q51 => ?_⟩
          · skip
            have e51a := e50.trans (if_pos q51)
            refine sf_91_43_5 (φ := ψ1) hI1  (fun ψ52 hI52 hF52 hE52 => ⟨rfl, rfl, ?_⟩)
            have hG52 : Fr [44, 45, 46, 47, 48, 49, 50, 51, 44000, 44001, 44002, 44003, 44004, 44005, 189000] φ ψ52 := fr_tr hG1 hF52 (by decide)
            have e52 := e51a.trans (bnv_e hE52)
            exact hQ ψ52 hI52 hG52 e52
          · skip
            have e51b := e50.trans (if_neg q51)
            refine sf_88_43 (φ := ψ1) hI1  (fun ψ54 hI54 hF54 hE54 => ⟨rfl, rfl, ?_⟩)
            have hG54 : Fr [44, 45, 46, 47, 48, 49, 50, 51, 44000, 44001, 44002, 44003, 44004, 44005, 189000] φ ψ54 := fr_tr hG1 hF54 (by decide)
            have e54 := e51b.trans (bnv_e hE54)
            refine sf_91_43_5 (φ := ψ54) hI54  (fun ψ55 hI55 hF55 hE55 => ⟨rfl, rfl, ?_⟩)
            have hG55 : Fr [44, 45, 46, 47, 48, 49, 50, 51, 44000, 44001, 44002, 44003, 44004, 44005, 189000] φ ψ55 := fr_tr hG54 hF55 (by decide)
            have e55 := e54.trans (bnv_e hE55)
            exact hQ ψ55 hI55 hG55 e55
      · skip
        have e46b := e45a.trans (if_neg q46)
        refine ⟨by unfold hi; omega, fun q57 => ?_, fun q57 => ?_⟩
        · skip
          have e57a := e46b.trans (if_pos q57)
          refine ⟨by unfold hi; omega, by unfold hi; omega, fun q58 => ?_, fun q58 => ?_⟩
          · skip
            have e58a := e57a.trans (if_pos q58)
            refine sf_91_43_5 (φ := ψ1) hI1  (fun ψ59 hI59 hF59 hE59 => ⟨rfl, rfl, ?_⟩)
            have hG59 : Fr [44, 45, 46, 47, 48, 49, 50, 51, 44000, 44001, 44002, 44003, 44004, 44005, 189000] φ ψ59 := fr_tr hG1 hF59 (by decide)
            have e59 := e58a.trans (bnv_e hE59)
            exact hQ ψ59 hI59 hG59 e59
          · skip
            have e58b := e57a.trans (if_neg q58)
            refine sf_87_43 (φ := ψ1) hI1  (fun z61 hp61 hE61 => ⟨rfl, rfl, z61, rfl, ?_⟩)
            have e61 := e58b.trans (bnp_e hE61)
            refine ⟨by unfold hi; omega, fun q62 => ?_, fun q62 => ?_⟩
            · skip
              have e62a := e61.trans (if_pos q62)
              refine sf_91_43_5 (φ := ψ1) hI1  (fun ψ63 hI63 hF63 hE63 => ⟨rfl, rfl, ?_⟩)
              have hG63 : Fr [44, 45, 46, 47, 48, 49, 50, 51, 44000, 44001, 44002, 44003, 44004, 44005, 189000] φ ψ63 := fr_tr hG1 hF63 (by decide)
              have e63 := e62a.trans (bnv_e hE63)
              exact hQ ψ63 hI63 hG63 e63
            · skip
              have e62b := e61.trans (if_neg q62)
              refine sf_88_43 (φ := ψ1) hI1  (fun ψ65 hI65 hF65 hE65 => ⟨rfl, rfl, ?_⟩)
              have hG65 : Fr [44, 45, 46, 47, 48, 49, 50, 51, 44000, 44001, 44002, 44003, 44004, 44005, 189000] φ ψ65 := fr_tr hG1 hF65 (by decide)
              have e65 := e62b.trans (bnv_e hE65)
              refine sf_91_43_5 (φ := ψ65) hI65  (fun ψ66 hI66 hF66 hE66 => ⟨rfl, rfl, ?_⟩)
              have hG66 : Fr [44, 45, 46, 47, 48, 49, 50, 51, 44000, 44001, 44002, 44003, 44004, 44005, 189000] φ ψ66 := fr_tr hG65 hF66 (by decide)
              have e66 := e65.trans (bnv_e hE66)
              exact hQ ψ66 hI66 hG66 e66
        · skip
          have e57b := e46b.trans (if_neg q57)
          refine ⟨by unfold hi; omega, fun q68 => ?_, fun q68 => ?_⟩
          · skip
            have e68a := e57b.trans (if_pos q68)
            refine ⟨by unfold hi; omega, by unfold hi; omega, fun q69 => ?_, fun q69 => ?_⟩
            · skip
              have e69a := e68a.trans (if_pos q69)
              refine sf_91_43_5 (φ := ψ1) hI1  (fun ψ70 hI70 hF70 hE70 => ⟨rfl, rfl, ?_⟩)
              have hG70 : Fr [44, 45, 46, 47, 48, 49, 50, 51, 44000, 44001, 44002, 44003, 44004, 44005, 189000] φ ψ70 := fr_tr hG1 hF70 (by decide)
              have e70 := e69a.trans (bnv_e hE70)
              exact hQ ψ70 hI70 hG70 e70
            · skip
              have e69b := e68a.trans (if_neg q69)
              refine sf_87_43 (φ := ψ1) hI1  (fun z72 hp72 hE72 => ⟨rfl, rfl, z72, rfl, ?_⟩)
              have e72 := e69b.trans (bnp_e hE72)
              refine ⟨by unfold hi; omega, fun q73 => ?_, fun q73 => ?_⟩
              · skip
                have e73a := e72.trans (if_pos q73)
                refine sf_91_43_5 (φ := ψ1) hI1  (fun ψ74 hI74 hF74 hE74 => ⟨rfl, rfl, ?_⟩)
                have hG74 : Fr [44, 45, 46, 47, 48, 49, 50, 51, 44000, 44001, 44002, 44003, 44004, 44005, 189000] φ ψ74 := fr_tr hG1 hF74 (by decide)
                have e74 := e73a.trans (bnv_e hE74)
                exact hQ ψ74 hI74 hG74 e74
              · skip
                have e73b := e72.trans (if_neg q73)
                refine sf_88_43 (φ := ψ1) hI1  (fun ψ76 hI76 hF76 hE76 => ⟨rfl, rfl, ?_⟩)
                have hG76 : Fr [44, 45, 46, 47, 48, 49, 50, 51, 44000, 44001, 44002, 44003, 44004, 44005, 189000] φ ψ76 := fr_tr hG1 hF76 (by decide)
                have e76 := e73b.trans (bnv_e hE76)
                refine sf_91_43_5 (φ := ψ76) hI76  (fun ψ77 hI77 hF77 hE77 => ⟨rfl, rfl, ?_⟩)
                have hG77 : Fr [44, 45, 46, 47, 48, 49, 50, 51, 44000, 44001, 44002, 44003, 44004, 44005, 189000] φ ψ77 := fr_tr hG76 hF77 (by decide)
                have e77 := e76.trans (bnv_e hE77)
                exact hQ ψ77 hI77 hG77 e77
          · skip
            have e68b := e57b.trans (if_neg q68)
            refine sf_128_188 (φ := ψ1) hI1 (by omega) (by omega) (fun z79 ψ79 hI79 hF79 hp79 hE79 => ⟨rfl, z79, rfl, ?_⟩)
            have hG79 : Fr [44, 45, 46, 47, 48, 49, 50, 51, 44000, 44001, 44002, 44003, 44004, 44005, 189000] φ ψ79 := fr_tr hG1 hF79 (by decide)
            have e79 := e68b.trans (bnd_e hE79)
            refine sf_128_188 (φ := ψ79) hI79 (by omega) (by omega) (fun z80 ψ80 hI80 hF80 hp80 hE80 => ⟨rfl, z80, rfl, ?_⟩)
            have hG80 : Fr [44, 45, 46, 47, 48, 49, 50, 51, 44000, 44001, 44002, 44003, 44004, 44005, 189000] φ ψ80 := fr_tr hG79 hF80 (by decide)
            have e80 := e79.trans (bnd_e hE80)
            refine sf_54_43 (φ := ψ80) hI80 (by omega) (by omega) (fun z81 hp81 hE81 => ⟨rfl, rfl, z81, rfl, ?_⟩)
            have e81 := e80.trans (bnp_e hE81)
            have f11 := iv_ar (a := 47) (s := 0) (t := 6) (lo := 0) (u := 6) (z := z79) hI80 (by decide +kernel) (by omega) (by omega)
            have f12 : ψ80 47 ((z79).toNat) = ψ79 47 ((z79).toNat) := (fr_at hF80 47 (by decide) ((z79).toNat))
            have f13 := iv_ar (a := 47) (s := 0) (t := 6) (lo := 0) (u := 6) (z := z79) hI79 (by decide +kernel) (by omega) (by omega)
            have f14 : ψ79 47 ((z79).toNat) = ψ1 47 ((z79).toNat) := (fr_at hF79 47 (by decide) ((z79).toNat))
            have f15 := iv_ar (a := 47) (s := 0) (t := 6) (lo := 0) (u := 6) (z := z79) hI1 (by decide +kernel) (by omega) (by omega)
            have f16 : ψ1 47 ((z79).toNat) = φ 47 ((z79).toNat) := (fr_at hF1 47 (by decide) ((z79).toNat))
            have f17 := iv_ar (a := 47) (s := 0) (t := 6) (lo := 0) (u := 6) (z := z79) hI (by decide +kernel) (by omega) (by omega)
            refine ⟨by unfold hi; omega, fun q82 => ?_, fun q82 => ?_⟩
            · skip
              have e82a := e81.trans (if_pos q82)
              refine sf_91_43_5 (φ := ψ80) hI80  (fun ψ83 hI83 hF83 hE83 => ⟨rfl, rfl, ?_⟩)
              have hG83 : Fr [44, 45, 46, 47, 48, 49, 50, 51, 44000, 44001, 44002, 44003, 44004, 44005, 189000] φ ψ83 := fr_tr hG80 hF83 (by decide)
              have e83 := e82a.trans (bnv_e hE83)
              exact hQ ψ83 hI83 hG83 e83
            · skip
              have e82b := e81.trans (if_neg q82)
              refine sf_55_43 (φ := ψ80) hI80 (by omega) (by omega) (by omega) (by omega) (by rw [show ψ80 47 ((z79).toNat) = ψ80 47 ((z79).toNat) from rfl]; constructor <;> omega) (fun ψ85 hI85 hF85 hE85 => ⟨rfl, rfl, ?_⟩)
              have hG85 : Fr [44, 45, 46, 47, 48, 49, 50, 51, 44000, 44001, 44002, 44003, 44004, 44005, 189000] φ ψ85 := fr_tr hG80 hF85 (by decide)
              have e85 := e82b.trans (bnv_e hE85)
              refine sf_91_43_5 (φ := ψ85) hI85  (fun ψ86 hI86 hF86 hE86 => ⟨rfl, rfl, ?_⟩)
              have hG86 : Fr [44, 45, 46, 47, 48, 49, 50, 51, 44000, 44001, 44002, 44003, 44004, 44005, 189000] φ ψ86 := fr_tr hG85 hF86 (by decide)
              have e86 := e85.trans (bnv_e hE86)
              exact hQ ψ86 hI86 hG86 e86
    · skip
      have e45b := e2b.trans (if_neg q45)
      refine ⟨by unfold hi; omega, fun q88 => ?_, fun q88 => ?_⟩
      · skip
        have e88a := e45b.trans (if_pos q88)
        refine ⟨by unfold hi; omega, by unfold hi; omega, fun q89 => ?_, fun q89 => ?_⟩
        · skip
          have e89a := e88a.trans (if_pos q89)
          refine ⟨by unfold hi; omega, by unfold hi; omega, fun q90 => ?_, fun q90 => ?_⟩
          · skip
            have e90a := e89a.trans (if_pos q90)
            refine sf_91_43_5 (φ := ψ1) hI1  (fun ψ91 hI91 hF91 hE91 => ⟨rfl, rfl, ?_⟩)
            have hG91 : Fr [44, 45, 46, 47, 48, 49, 50, 51, 44000, 44001, 44002, 44003, 44004, 44005, 189000] φ ψ91 := fr_tr hG1 hF91 (by decide)
            have e91 := e90a.trans (bnv_e hE91)
            exact hQ ψ91 hI91 hG91 e91
          · skip
            have e90b := e89a.trans (if_neg q90)
            refine sf_87_43 (φ := ψ1) hI1  (fun z93 hp93 hE93 => ⟨rfl, rfl, z93, rfl, ?_⟩)
            have e93 := e90b.trans (bnp_e hE93)
            refine ⟨by unfold hi; omega, fun q94 => ?_, fun q94 => ?_⟩
            · skip
              have e94a := e93.trans (if_pos q94)
              refine sf_91_43_5 (φ := ψ1) hI1  (fun ψ95 hI95 hF95 hE95 => ⟨rfl, rfl, ?_⟩)
              have hG95 : Fr [44, 45, 46, 47, 48, 49, 50, 51, 44000, 44001, 44002, 44003, 44004, 44005, 189000] φ ψ95 := fr_tr hG1 hF95 (by decide)
              have e95 := e94a.trans (bnv_e hE95)
              exact hQ ψ95 hI95 hG95 e95
            · skip
              have e94b := e93.trans (if_neg q94)
              refine sf_88_43 (φ := ψ1) hI1  (fun ψ97 hI97 hF97 hE97 => ⟨rfl, rfl, ?_⟩)
              have hG97 : Fr [44, 45, 46, 47, 48, 49, 50, 51, 44000, 44001, 44002, 44003, 44004, 44005, 189000] φ ψ97 := fr_tr hG1 hF97 (by decide)
              have e97 := e94b.trans (bnv_e hE97)
              refine sf_91_43_5 (φ := ψ97) hI97  (fun ψ98 hI98 hF98 hE98 => ⟨rfl, rfl, ?_⟩)
              have hG98 : Fr [44, 45, 46, 47, 48, 49, 50, 51, 44000, 44001, 44002, 44003, 44004, 44005, 189000] φ ψ98 := fr_tr hG97 hF98 (by decide)
              have e98 := e97.trans (bnv_e hE98)
              exact hQ ψ98 hI98 hG98 e98
        · skip
          have e89b := e88a.trans (if_neg q89)
          refine ⟨by unfold hi; omega, fun q100 => ?_, fun q100 => ?_⟩
          · skip
            have e100a := e89b.trans (if_pos q100)
            refine ⟨by unfold hi; omega, by unfold hi; omega, fun q101 => ?_, fun q101 => ?_⟩
            · skip
              have e101a := e100a.trans (if_pos q101)
              refine sf_91_43_5 (φ := ψ1) hI1  (fun ψ102 hI102 hF102 hE102 => ⟨rfl, rfl, ?_⟩)
              have hG102 : Fr [44, 45, 46, 47, 48, 49, 50, 51, 44000, 44001, 44002, 44003, 44004, 44005, 189000] φ ψ102 := fr_tr hG1 hF102 (by decide)
              have e102 := e101a.trans (bnv_e hE102)
              exact hQ ψ102 hI102 hG102 e102
            · skip
              have e101b := e100a.trans (if_neg q101)
              refine sf_87_43 (φ := ψ1) hI1  (fun z104 hp104 hE104 => ⟨rfl, rfl, z104, rfl, ?_⟩)
              have e104 := e101b.trans (bnp_e hE104)
              refine ⟨by unfold hi; omega, fun q105 => ?_, fun q105 => ?_⟩
              · skip
                have e105a := e104.trans (if_pos q105)
                refine sf_91_43_5 (φ := ψ1) hI1  (fun ψ106 hI106 hF106 hE106 => ⟨rfl, rfl, ?_⟩)
                have hG106 : Fr [44, 45, 46, 47, 48, 49, 50, 51, 44000, 44001, 44002, 44003, 44004, 44005, 189000] φ ψ106 := fr_tr hG1 hF106 (by decide)
                have e106 := e105a.trans (bnv_e hE106)
                exact hQ ψ106 hI106 hG106 e106
              · skip
                have e105b := e104.trans (if_neg q105)
                refine sf_88_43 (φ := ψ1) hI1  (fun ψ108 hI108 hF108 hE108 => ⟨rfl, rfl, ?_⟩)
                have hG108 : Fr [44, 45, 46, 47, 48, 49, 50, 51, 44000, 44001, 44002, 44003, 44004, 44005, 189000] φ ψ108 := fr_tr hG1 hF108 (by decide)
                have e108 := e105b.trans (bnv_e hE108)
                refine sf_91_43_5 (φ := ψ108) hI108  (fun ψ109 hI109 hF109 hE109 => ⟨rfl, rfl, ?_⟩)
                have hG109 : Fr [44, 45, 46, 47, 48, 49, 50, 51, 44000, 44001, 44002, 44003, 44004, 44005, 189000] φ ψ109 := fr_tr hG108 hF109 (by decide)
                have e109 := e108.trans (bnv_e hE109)
                exact hQ ψ109 hI109 hG109 e109
          · skip
            have e100b := e89b.trans (if_neg q100)
            refine ⟨by unfold hi; omega, fun q111 => ?_, fun q111 => ?_⟩
            · skip
              have e111a := e100b.trans (if_pos q111)
              refine ⟨by unfold hi; omega, by unfold hi; omega, fun q112 => ?_, fun q112 => ?_⟩
              · skip
                have e112a := e111a.trans (if_pos q112)
                refine sf_91_43_5 (φ := ψ1) hI1  (fun ψ113 hI113 hF113 hE113 => ⟨rfl, rfl, ?_⟩)
                have hG113 : Fr [44, 45, 46, 47, 48, 49, 50, 51, 44000, 44001, 44002, 44003, 44004, 44005, 189000] φ ψ113 := fr_tr hG1 hF113 (by decide)
                have e113 := e112a.trans (bnv_e hE113)
                exact hQ ψ113 hI113 hG113 e113
              · skip
                have e112b := e111a.trans (if_neg q112)
                refine sf_87_43 (φ := ψ1) hI1  (fun z115 hp115 hE115 => ⟨rfl, rfl, z115, rfl, ?_⟩)
                have e115 := e112b.trans (bnp_e hE115)
                refine ⟨by unfold hi; omega, fun q116 => ?_, fun q116 => ?_⟩
                · skip
                  have e116a := e115.trans (if_pos q116)
                  refine sf_91_43_5 (φ := ψ1) hI1  (fun ψ117 hI117 hF117 hE117 => ⟨rfl, rfl, ?_⟩)
                  have hG117 : Fr [44, 45, 46, 47, 48, 49, 50, 51, 44000, 44001, 44002, 44003, 44004, 44005, 189000] φ ψ117 := fr_tr hG1 hF117 (by decide)
                  have e117 := e116a.trans (bnv_e hE117)
                  exact hQ ψ117 hI117 hG117 e117
                · skip
                  have e116b := e115.trans (if_neg q116)
                  refine sf_88_43 (φ := ψ1) hI1  (fun ψ119 hI119 hF119 hE119 => ⟨rfl, rfl, ?_⟩)
                  have hG119 : Fr [44, 45, 46, 47, 48, 49, 50, 51, 44000, 44001, 44002, 44003, 44004, 44005, 189000] φ ψ119 := fr_tr hG1 hF119 (by decide)
                  have e119 := e116b.trans (bnv_e hE119)
                  refine sf_91_43_5 (φ := ψ119) hI119  (fun ψ120 hI120 hF120 hE120 => ⟨rfl, rfl, ?_⟩)
                  have hG120 : Fr [44, 45, 46, 47, 48, 49, 50, 51, 44000, 44001, 44002, 44003, 44004, 44005, 189000] φ ψ120 := fr_tr hG119 hF120 (by decide)
                  have e120 := e119.trans (bnv_e hE120)
                  exact hQ ψ120 hI120 hG120 e120
            · skip
              have e111b := e100b.trans (if_neg q111)
              refine sf_128_188 (φ := ψ1) hI1 (by omega) (by omega) (fun z122 ψ122 hI122 hF122 hp122 hE122 => ⟨rfl, z122, rfl, ?_⟩)
              have hG122 : Fr [44, 45, 46, 47, 48, 49, 50, 51, 44000, 44001, 44002, 44003, 44004, 44005, 189000] φ ψ122 := fr_tr hG1 hF122 (by decide)
              have e122 := e111b.trans (bnd_e hE122)
              refine sf_128_188 (φ := ψ122) hI122 (by omega) (by omega) (fun z123 ψ123 hI123 hF123 hp123 hE123 => ⟨rfl, z123, rfl, ?_⟩)
              have hG123 : Fr [44, 45, 46, 47, 48, 49, 50, 51, 44000, 44001, 44002, 44003, 44004, 44005, 189000] φ ψ123 := fr_tr hG122 hF123 (by decide)
              have e123 := e122.trans (bnd_e hE123)
              refine sf_54_43 (φ := ψ123) hI123 (by omega) (by omega) (fun z124 hp124 hE124 => ⟨rfl, rfl, z124, rfl, ?_⟩)
              have e124 := e123.trans (bnp_e hE124)
              have f18 := iv_ar (a := 47) (s := 0) (t := 6) (lo := 0) (u := 6) (z := z122) hI123 (by decide +kernel) (by omega) (by omega)
              have f19 : ψ123 47 ((z122).toNat) = ψ122 47 ((z122).toNat) := (fr_at hF123 47 (by decide) ((z122).toNat))
              have f20 := iv_ar (a := 47) (s := 0) (t := 6) (lo := 0) (u := 6) (z := z122) hI122 (by decide +kernel) (by omega) (by omega)
              have f21 : ψ122 47 ((z122).toNat) = ψ1 47 ((z122).toNat) := (fr_at hF122 47 (by decide) ((z122).toNat))
              have f22 := iv_ar (a := 47) (s := 0) (t := 6) (lo := 0) (u := 6) (z := z122) hI1 (by decide +kernel) (by omega) (by omega)
              have f23 : ψ1 47 ((z122).toNat) = φ 47 ((z122).toNat) := (fr_at hF1 47 (by decide) ((z122).toNat))
              have f24 := iv_ar (a := 47) (s := 0) (t := 6) (lo := 0) (u := 6) (z := z122) hI (by decide +kernel) (by omega) (by omega)
              refine ⟨by unfold hi; omega, fun q125 => ?_, fun q125 => ?_⟩
              · skip
                have e125a := e124.trans (if_pos q125)
                refine sf_91_43_5 (φ := ψ123) hI123  (fun ψ126 hI126 hF126 hE126 => ⟨rfl, rfl, ?_⟩)
                have hG126 : Fr [44, 45, 46, 47, 48, 49, 50, 51, 44000, 44001, 44002, 44003, 44004, 44005, 189000] φ ψ126 := fr_tr hG123 hF126 (by decide)
                have e126 := e125a.trans (bnv_e hE126)
                exact hQ ψ126 hI126 hG126 e126
              · skip
                have e125b := e124.trans (if_neg q125)
                refine sf_55_43 (φ := ψ123) hI123 (by omega) (by omega) (by omega) (by omega) (by rw [show ψ123 47 ((z122).toNat) = ψ123 47 ((z122).toNat) from rfl]; constructor <;> omega) (fun ψ128 hI128 hF128 hE128 => ⟨rfl, rfl, ?_⟩)
                have hG128 : Fr [44, 45, 46, 47, 48, 49, 50, 51, 44000, 44001, 44002, 44003, 44004, 44005, 189000] φ ψ128 := fr_tr hG123 hF128 (by decide)
                have e128 := e125b.trans (bnv_e hE128)
                refine sf_91_43_5 (φ := ψ128) hI128  (fun ψ129 hI129 hF129 hE129 => ⟨rfl, rfl, ?_⟩)
                have hG129 : Fr [44, 45, 46, 47, 48, 49, 50, 51, 44000, 44001, 44002, 44003, 44004, 44005, 189000] φ ψ129 := fr_tr hG128 hF129 (by decide)
                have e129 := e128.trans (bnv_e hE129)
                exact hQ ψ129 hI129 hG129 e129
      · skip
        have e88b := e45b.trans (if_neg q88)
        refine sf_128_188 (φ := ψ1) hI1 (by omega) (by omega) (fun z131 ψ131 hI131 hF131 hp131 hE131 => ⟨rfl, z131, rfl, ?_⟩)
        have hG131 : Fr [44, 45, 46, 47, 48, 49, 50, 51, 44000, 44001, 44002, 44003, 44004, 44005, 189000] φ ψ131 := fr_tr hG1 hF131 (by decide)
        have e131 := e88b.trans (bnd_e hE131)
        refine sf_128_188 (φ := ψ131) hI131 (by omega) (by omega) (fun z132 ψ132 hI132 hF132 hp132 hE132 => ⟨rfl, z132, rfl, ?_⟩)
        have hG132 : Fr [44, 45, 46, 47, 48, 49, 50, 51, 44000, 44001, 44002, 44003, 44004, 44005, 189000] φ ψ132 := fr_tr hG131 hF132 (by decide)
        have e132 := e131.trans (bnd_e hE132)
        refine sf_129_43 (φ := ψ132) hI132 (by omega) (by omega) (by omega) (by omega) (fun ψ133 hI133 hF133 hE133 => ⟨rfl, rfl, ?_⟩)
        have hG133 : Fr [44, 45, 46, 47, 48, 49, 50, 51, 44000, 44001, 44002, 44003, 44004, 44005, 189000] φ ψ133 := fr_tr hG132 hF133 (by decide)
        have e133 := e132.trans (bnv_e hE133)
        refine sf_91_43_5 (φ := ψ133) hI133  (fun ψ134 hI134 hF134 hE134 => ⟨rfl, rfl, ?_⟩)
        have hG134 : Fr [44, 45, 46, 47, 48, 49, 50, 51, 44000, 44001, 44002, 44003, 44004, 44005, 189000] φ ψ134 := fr_tr hG133 hF134 (by decide)
        have e134 := e133.trans (bnv_e hE134)
        exact hQ ψ134 hI134 hG134 e134
theorem sf_131_187_188_v13 {sc : List Int} {d : Nat} {φ : hf_F} {x : Nat} {Q : Option jm_V → hf_F → Nat → Prop} {L : jm_L} {l1 l3 : Int} (g0 : jm_get L 0 = some (2, 187)) (g1 : jm_get L 1 = some (0, l1)) (g2 : jm_get L 2 = some (2, 188)) (g3 : jm_get L 3 = some (0, l3))
    (H : hi l3 ∧ hi 30 ∧ (30 ≤ l3 → hw sc (d + 3) 74 0 [(0, (2, 43)), (1, (0, l1))] [] φ x (fun r ψ2 y2 => y2 = x ∧ φ = ψ2 ∧ (∃ z2 : Int, r = some (0, z2) ∧ ((z2 = 0 ∨ z2 = 1) ∧ Q (some (0, z2)) φ x)))) ∧ (¬ 30 ≤ l3 → hw sc (d + 3) 127 0 [(0, (2, 43)), (1, (2, 5)), (2, (2, 188))] [] φ x (fun r ψ4 y4 => y4 = x ∧ (r = none ∧ (hw sc (d + 4) 131 13 (jm_st1 L 3 (0, l3 + 1)) [] ψ4 x Q))))) :
    hw sc (d + 4) 131 13 L [] φ x Q := by
  refine hw_ld (b := 3) (e := 0) (by decide +kernel) g3 ?_
  refine hw_k (c := 30) (b := 1) (e := 2) (by decide +kernel) ?_
  obtain ⟨hz1, hy1, ht1, hf1⟩ := H
  refine hw_if2 (a0 := 0) (b := 3) (e := 37) (by decide +kernel) hz1 hy1 (fun q => ?_) (fun q => ?_)
  · have H := ht1 q
    refine hw_ald (b := 0) (e := 0) (by decide +kernel) g0 (by decide) ?_
    refine hr_gr (w := 43) (b := 9) (e := 2) 187 rfl (by decide +kernel) ?_
    refine hw_ld (b := 1) (e := 0) (by decide +kernel) g1 ?_
    refine hr_call (a0 := 14) (b := 74) (e := 2) (nl := 2) (As := [(0, l1)]) (R := []) 43 rfl (by decide +kernel) rfl rfl (Nat.le_of_ble_eq_true rfl) (Nat.le_of_ble_eq_true rfl) ?_
    refine hw_mono H ?_
    rintro r ψ2 y2 ⟨hyx, hψx, z2, hr, H⟩
    subst hyx
    subst hψx
    subst hr
    refine ⟨hne0, ?_⟩
    show hw sc (d + 4) 131 45 L [(0, z2)] φ y2 Q
    exact hw_ret (a0 := 0) (e := 1) (by decide +kernel) (Or.inr ⟨rfl, H.1⟩) H.2
  · have H := hf1 q
    refine hw_ald (b := 0) (e := 0) (by decide +kernel) g0 (by decide) ?_
    refine hr_gr (w := 43) (b := 9) (e := 2) 187 rfl (by decide +kernel) ?_
    refine hw_ald (b := 0) (e := 0) (by decide +kernel) g0 (by decide) ?_
    refine hr_gr (w := 5) (b := 9) (e := 0) 187 rfl (by decide +kernel) ?_
    refine hw_ald (b := 2) (e := 0) (by decide +kernel) g2 (by decide) ?_
    refine hr_call (a0 := 14) (b := 127) (e := 3) (nl := 9) (As := [(2, 5), (2, 188)]) (R := []) 43 rfl (by decide +kernel) rfl rfl (Nat.le_of_ble_eq_true rfl) (Nat.le_of_ble_eq_true rfl) ?_
    refine hw_mono H ?_
    rintro r ψ4 y4 ⟨hyx, hr, H⟩
    subst hyx
    subst hr
    refine ⟨hnen, ?_⟩
    show hw sc (d + 4) 131 31 L [] ψ4 y4 Q
    refine hw_inc (L' := (jm_st1 L 3 (0, l3 + 1))) (c := 1) (b := 3) (e := 0) (by decide +kernel) g3 rfl ?_
    refine hw_goto (a0 := 0) (b := 0) (e := 13) (by decide +kernel) ?_
    exact H
theorem sf_131_187_188_l13 {sc : List Int} {d x : Nat} {Q : Option jm_V → hf_F → Nat → Prop} : ∀ (n : Nat) (φ : hf_F) (L : jm_L) (l1 l3 : Int), jm_get L 0 = some (2, 187) → jm_get L 1 = some (0, l1) → jm_get L 2 = some (2, 188) → jm_get L 3 = some (0, l3) → Inv φ → 30 - l3 < (n : Int) → 0 ≤ l1 → l1 ≤ 7 → 0 ≤ l3 → l3 ≤ 30 → (∀ (r : Int) (ψ : hf_F), Inv ψ → Fr [44, 45, 46, 47, 48, 49, 50, 51, 44000, 44001, 44002, 44003, 44004, 44005, 189000] φ ψ → 0 ≤ r ∧ r ≤ 1 → F_Outlook_holdsByDraws_187_188_l13 n φ l1 l3 = (r, ψ) → Q (some (0, r)) ψ x) → hw sc (d + 4) 131 13 L [] φ x Q := by
  intro n
  induction n with
  | zero =>
    intro φ L l1 l3 g0 g1 g2 g3 hI hM b1a b1b b3a b3b hQ
    exfalso
    omega
  | succ n ih =>
    intro φ L l1 l3 g0 g1 g2 g3 hI hM b1a b1b b3a b3b hQ
    refine sf_131_187_188_v13 g0 g1 g2 g3 ?_
    have e0 := F_Outlook_holdsByDraws_187_188_l13_s (φ := φ) (l1 := l1) (l3 := l3) n
    refine ⟨by unfold hi; omega, by unfold hi; omega, fun q1 => ?_, fun q1 => ?_⟩
    · skip
      have e1a := e0.trans (if_pos q1)
      refine sf_74_43 (φ := φ) hI (by omega) (by omega) (fun z2 hp2 hE2 => ⟨rfl, rfl, z2, rfl, ?_⟩)
      have e2 := e1a.trans (bnp_e hE2)
      refine ⟨by omega, ?_⟩
      exact hQ z2 φ hI (fr_rf) ⟨by omega, by omega⟩ e2
    · skip
      have e1b := e0.trans (if_neg q1)
      refine sf_127_43_5_188 (φ := φ) hI  (fun ψ4 hI4 hF4 hE4 => ⟨rfl, rfl, ?_⟩)
      have hG4 : Fr [44, 45, 46, 47, 48, 49, 50, 51, 44000, 44001, 44002, 44003, 44004, 44005, 189000] φ ψ4 := fr_tr (fr_rf) hF4 (by decide)
      have e4 := e1b.trans (bnv_e hE4)
      exact ih ψ4 (jm_st1 L 3 (0, l3 + 1)) l1 (l3 + 1) (get_st1 g0 (by decide) (fun q => absurd q.1 (by decide))) (get_st1 g1 (by decide) (fun q => absurd q.1 (by decide))) (get_st1 g2 (by decide) (fun q => tg2 q.2)) get_st1e hI4 (by omega) (by omega) (by omega) (by omega) (by omega) (fun rr χ hIχ hFχ hpχ hEχ => hQ rr χ hIχ (fr_tr hG4 hFχ (by decide)) hpχ (e4.trans hEχ))
theorem sf_131_187_188_v {sc : List Int} {d : Nat} {φ : hf_F} {x : Nat} {Q : Option jm_V → hf_F → Nat → Prop} {v1 : Int}
    (H : hw sc (d + 3) 66 0 [(0, (2, 43)), (1, (2, 17))] [] φ x (fun r ψ1 y1 => y1 = x ∧ (r = none ∧ (hw sc (d + 4) 131 13 (jm_st1 [(0, (2, 187)), (1, (0, v1)), (2, (2, 188))] 3 (0, 0)) [] ψ1 x Q)))) :
    hw sc (d + 4) 131 0 [(0, (2, 187)), (1, (0, v1)), (2, (2, 188))] [] φ x Q := by
  refine hw_ald (b := 0) (e := 0) (by decide +kernel) rfl (by decide) ?_
  refine hr_gr (w := 43) (b := 9) (e := 2) 187 rfl (by decide +kernel) ?_
  refine hw_ald (b := 0) (e := 0) (by decide +kernel) rfl (by decide) ?_
  refine hr_gr (w := 17) (b := 9) (e := 1) 187 rfl (by decide +kernel) ?_
  refine hr_call (a0 := 14) (b := 66) (e := 2) (nl := 2) (As := [(2, 17)]) (R := []) 43 rfl (by decide +kernel) rfl rfl (Nat.le_of_ble_eq_true rfl) (Nat.le_of_ble_eq_true rfl) ?_
  refine hw_mono H ?_
  rintro r ψ1 y1 ⟨hyx, hr, H⟩
  subst hyx
  subst hr
  refine ⟨hnen, ?_⟩
  show hw sc (d + 4) 131 11 [(0, (2, 187)), (1, (0, v1)), (2, (2, 188))] [] ψ1 y1 Q
  refine hw_k (c := 0) (b := 0) (e := 1) (by decide +kernel) ?_
  refine hw_st (L' := (jm_st1 [(0, (2, 187)), (1, (0, v1)), (2, (2, 188))] 3 (0, 0))) (b := 3) (e := 0) (by decide +kernel) rfl ?_
  exact H
theorem sf_131_187_188 {sc : List Int} {d : Nat} {φ : hf_F} {x : Nat} {Q : Option jm_V → hf_F → Nat → Prop} {v1 : Int} (hI : Inv φ) (h1a : 0 ≤ v1) (h1b : v1 ≤ 7) (hQ : ∀ (r : Int) (ψ : hf_F), Inv ψ → Fr [44, 45, 46, 47, 48, 49, 50, 51, 44000, 44001, 44002, 44003, 44004, 44005, 189000] φ ψ → 0 ≤ r ∧ r ≤ 1 → F_Outlook_holdsByDraws_187_188 φ v1 = (r, ψ) → Q (some (0, r)) ψ x) : hw sc (d + 4) 131 0 [(0, (2, 187)), (1, (0, v1)), (2, (2, 188))] [] φ x Q := by
  apply sf_131_187_188_v
  have e0 : F_Outlook_holdsByDraws_187_188 φ v1 = _ := rfl
  refine sf_66_43_17 (φ := φ) hI  (fun ψ1 hI1 hF1 hE1 => ⟨rfl, rfl, ?_⟩)
  have hG1 : Fr [44, 45, 46, 47, 48, 49, 50, 51, 44000, 44001, 44002, 44003, 44004, 44005, 189000] φ ψ1 := fr_tr (fr_rf) hF1 (by decide)
  have e1 := e0.trans (bnv_e hE1)
  exact sf_131_187_188_l13 ((30 - 0 : Int).toNat + 1) ψ1 (jm_st1 [(0, (2, 187)), (1, (0, v1)), (2, (2, 188))] 3 (0, 0)) v1 0 (get_st1 rfl (by decide) (fun q => absurd q.1 (by decide))) (get_st1 rfl (by decide) (fun q => absurd q.1 (by decide))) (get_st1 rfl (by decide) (fun q => tg2 q.2)) get_st1e hI1 (by omega) (by omega) (by omega) (by omega) (by omega) (fun rr χ hIχ hFχ hpχ hEχ => hQ rr χ hIχ (fr_tr hG1 hFχ (by decide)) hpχ (e1.trans hEχ))
theorem sf_130_0_v28 {sc : List Int} {d : Nat} {φ : hf_F} {x : Nat} {Q : Option jm_V → hf_F → Nat → Prop} {L : jm_L} {l1 l2 l3 l4 l5 : Int} (g0 : jm_get L 0 = some (2, 0)) (g1 : jm_get L 1 = some (0, l1)) (g2 : jm_get L 2 = some (0, l2)) (g3 : jm_get L 3 = some (0, l3)) (g4 : jm_get L 4 = some (0, l4)) (g5 : jm_get L 5 = some (0, l5))
    (H : hi l5 ∧ hi l2 ∧ (l2 ≤ l5 → Q (some (0, l4)) φ x) ∧ (¬ l2 ≤ l5 → hw sc (d + 4) 131 0 [(0, (2, 187)), (1, (0, l1)), (2, (2, 188))] [] (hf_up φ 188 0 (l3 + l5)) x (fun r ψ3 y3 => y3 = x ∧ (∃ z3 : Int, r = some (0, z3) ∧ (hi z3 ∧ (z3 = 0 → hw sc (d + 5) 130 28 (jm_st1 L 5 (0, l5 + 1)) [] ψ3 x Q) ∧ (¬ z3 = 0 → hw sc (d + 5) 130 28 (jm_st1 (jm_st1 L 4 (0, l4 + 1)) 5 (0, l5 + 1)) [] ψ3 x Q)))))) :
    hw sc (d + 5) 130 28 L [] φ x Q := by
  refine hw_ld (b := 5) (e := 1) (by decide +kernel) g5 ?_
  refine hw_ld (b := 2) (e := 0) (by decide +kernel) g2 ?_
  obtain ⟨hz1, hy1, ht1, hf1⟩ := H
  refine hw_if2 (a0 := 0) (b := 3) (e := 69) (by decide +kernel) hz1 hy1 (fun q => ?_) (fun q => ?_)
  · have H := ht1 q
    refine hw_ld (b := 4) (e := 1) (by decide +kernel) g4 ?_
    exact hw_ret (a0 := 0) (e := 0) (by decide +kernel) (Or.inl rfl) H
  · have H := hf1 q
    refine hw_ald (b := 0) (e := 0) (by decide +kernel) g0 (by decide) ?_
    refine hr_gr (w := 188) (b := 0) (e := 9) 0 rfl (by decide +kernel) ?_
    refine hw_ld (b := 3) (e := 0) (by decide +kernel) g3 ?_
    refine hw_ld (b := 5) (e := 1) (by decide +kernel) g5 ?_
    refine hw_bin (w := l3 + l5) (a0 := 0) (b := 0) (e := 0) (by decide +kernel) rfl ?_
    refine hr_pi (b := 10) (e := 0) 188 rfl (by decide +kernel) ?_
    refine hw_ald (b := 0) (e := 0) (by decide +kernel) g0 (by decide) ?_
    refine hr_gr (w := 187) (b := 0) (e := 8) 0 rfl (by decide +kernel) ?_
    refine hw_ld (b := 1) (e := 0) (by decide +kernel) g1 ?_
    refine hw_ald (b := 0) (e := 0) (by decide +kernel) g0 (by decide) ?_
    refine hr_gr (w := 188) (b := 0) (e := 9) 0 rfl (by decide +kernel) ?_
    refine hr_call (a0 := 19) (b := 131) (e := 3) (nl := 4) (As := [(0, l1), (2, 188)]) (R := []) 187 rfl (by decide +kernel) rfl rfl (Nat.le_of_ble_eq_true rfl) (Nat.le_of_ble_eq_true rfl) ?_
    refine hw_mono H ?_
    rintro r ψ3 y3 ⟨hyx, z3, hr, H⟩
    subst hyx
    subst hr
    refine ⟨hne0, ?_⟩
    show hw sc (d + 5) 130 57 L [(0, z3)] ψ3 y3 Q
    obtain ⟨hz4, ht4, hf4⟩ := H
    refine hw_if (a0 := 0) (b := 0) (e := 63) (by decide +kernel) hz4 (fun q => ?_) (fun q => ?_)
    · have H := ht4 q
      refine hw_inc (L' := (jm_st1 L 5 (0, l5 + 1))) (c := 1) (b := 5) (e := 0) (by decide +kernel) g5 rfl ?_
      refine hw_goto (a0 := 0) (b := 0) (e := 28) (by decide +kernel) ?_
      exact H
    · have H := hf4 q
      refine hw_inc (L' := (jm_st1 L 4 (0, l4 + 1))) (c := 1) (b := 4) (e := 0) (by decide +kernel) g4 rfl ?_
      refine hw_inc (L' := (jm_st1 (jm_st1 L 4 (0, l4 + 1)) 5 (0, l5 + 1))) (c := 1) (b := 5) (e := 0) (by decide +kernel) (get_st1 g5 (by decide) (fun q => absurd q.1 (by decide))) rfl ?_
      refine hw_goto (a0 := 0) (b := 0) (e := 28) (by decide +kernel) ?_
      exact H
theorem sf_130_0_l28 {sc : List Int} {d x : Nat} {Q : Option jm_V → hf_F → Nat → Prop} : ∀ (n : Nat) (φ : hf_F) (L : jm_L) (l1 l2 l3 l4 l5 : Int), jm_get L 0 = some (2, 0) → jm_get L 1 = some (0, l1) → jm_get L 2 = some (0, l2) → jm_get L 3 = some (0, l3) → jm_get L 4 = some (0, l4) → jm_get L 5 = some (0, l5) → Inv φ → 30 - l5 < (n : Int) → 0 ≤ l1 → l1 ≤ 7 → 1 ≤ l2 → l2 ≤ 30 → 0 ≤ l4 → l4 ≤ 30 → 0 ≤ l5 → l5 ≤ 30 → l4 ≤ l5 → (∀ (r : Int) (ψ : hf_F), Inv ψ → Fr [44, 45, 46, 47, 48, 49, 50, 51, 44000, 44001, 44002, 44003, 44004, 44005, 189000] φ ψ → True → F_RideLaws_odds_0_l28 n φ l1 l2 l3 l4 l5 = (r, ψ) → Q (some (0, r)) ψ x) → hw sc (d + 5) 130 28 L [] φ x Q := by
  intro n
  induction n with
  | zero =>
    intro φ L l1 l2 l3 l4 l5 g0 g1 g2 g3 g4 g5 hI hM b1a b1b b2a b2b b4a b4b b5a b5b c0 hQ
    exfalso
    omega
  | succ n ih =>
    intro φ L l1 l2 l3 l4 l5 g0 g1 g2 g3 g4 g5 hI hM b1a b1b b2a b2b b4a b4b b5a b5b c0 hQ
    refine sf_130_0_v28 g0 g1 g2 g3 g4 g5 ?_
    have e0 := F_RideLaws_odds_0_l28_s (φ := φ) (l1 := l1) (l2 := l2) (l3 := l3) (l4 := l4) (l5 := l5) n
    refine ⟨by unfold hi; omega, by unfold hi; omega, fun q1 => ?_, fun q1 => ?_⟩
    · skip
      have e1a := e0.trans (if_pos q1)
      exact hQ l4 φ hI (fr_rf) trivial e1a
    · skip
      have e1b := e0.trans (if_neg q1)
      have i1 : Inv (hf_up φ 188 0 (l3 + l5)) := iv_upn hI (by decide) (by decide) (by decide +kernel)
      have r1 : Fr [44, 45, 46, 47, 48, 49, 50, 51, 44000, 44001, 44002, 44003, 44004, 44005, 189000] φ (hf_up φ 188 0 (l3 + l5)) := fr_up (fr_rf) (by decide)
      refine sf_131_187_188 (φ := (hf_up φ 188 0 (l3 + l5))) i1 (by omega) (by omega) (fun z3 ψ3 hI3 hF3 hp3 hE3 => ⟨rfl, z3, rfl, ?_⟩)
      have hG3 : Fr [44, 45, 46, 47, 48, 49, 50, 51, 44000, 44001, 44002, 44003, 44004, 44005, 189000] φ ψ3 := fr_tr r1 hF3 (by decide)
      have e3 := e1b.trans (bnd_e hE3)
      refine ⟨by unfold hi; omega, fun q4 => ?_, fun q4 => ?_⟩
      · skip
        have e4a := e3.trans (if_pos q4)
        exact ih ψ3 (jm_st1 L 5 (0, l5 + 1)) l1 l2 l3 l4 (l5 + 1) (get_st1 g0 (by decide) (fun q => absurd q.1 (by decide))) (get_st1 g1 (by decide) (fun q => absurd q.1 (by decide))) (get_st1 g2 (by decide) (fun q => absurd q.1 (by decide))) (get_st1 g3 (by decide) (fun q => absurd q.1 (by decide))) (get_st1 g4 (by decide) (fun q => tg0 q.2)) get_st1e hI3 (by omega) (by omega) (by omega) (by omega) (by omega) (by omega) (by omega) (by omega) (by omega) (by omega) (fun rr χ hIχ hFχ hpχ hEχ => hQ rr χ hIχ (fr_tr hG3 hFχ (by decide)) hpχ (e4a.trans hEχ))
      · skip
        have e4b := e3.trans (if_neg q4)
        exact ih ψ3 (jm_st1 (jm_st1 L 4 (0, l4 + 1)) 5 (0, l5 + 1)) l1 l2 l3 (l4 + 1) (l5 + 1) (get_st1 (get_st1 g0 (by decide) (fun q => absurd q.1 (by decide))) (by decide) (fun q => absurd q.1 (by decide))) (get_st1 (get_st1 g1 (by decide) (fun q => absurd q.1 (by decide))) (by decide) (fun q => absurd q.1 (by decide))) (get_st1 (get_st1 g2 (by decide) (fun q => absurd q.1 (by decide))) (by decide) (fun q => absurd q.1 (by decide))) (get_st1 (get_st1 g3 (by decide) (fun q => tg0 q.2)) (by decide) (fun q => absurd q.1 (by decide))) (get_st1 get_st1e (by decide) (fun q => tg0 q.2)) get_st1e hI3 (by omega) (by omega) (by omega) (by omega) (by omega) (by omega) (by omega) (by omega) (by omega) (by omega) (fun rr χ hIχ hFχ hpχ hEχ => hQ rr χ hIχ (fr_tr hG3 hFχ (by decide)) hpχ (e4b.trans hEχ))
theorem sf_130_0_v {sc : List Int} {d : Nat} {φ : hf_F} {x : Nat} {Q : Option jm_V → hf_F → Nat → Prop} {v1 v2 v3 : Int}
    (H : hw sc (d + 4) 70 0 [(0, (2, 0)), (1, (0, 4)), (2, (0, v1))] [] φ x (fun r ψ1 y1 => y1 = x ∧ φ = ψ1 ∧ (∃ z1 : Int, r = some (0, z1) ∧ (hi z1 ∧ (z1 = 0 → Q (some (0, (-1 : Int))) φ x) ∧ (¬ z1 = 0 → hi v2 ∧ hi 1 ∧ (v2 < 1 → Q (some (0, (-1 : Int))) φ x) ∧ (¬ v2 < 1 → hi v2 ∧ hi 30 ∧ (v2 ≤ 30 → hw sc (d + 5) 130 28 (jm_st1 (jm_st1 [(0, (2, 0)), (1, (0, v1)), (2, (0, v2)), (3, (0, v3))] 4 (0, 0)) 5 (0, 0)) [] φ x Q) ∧ (¬ v2 ≤ 30 → Q (some (0, (-1 : Int))) φ x))))))) :
    hw sc (d + 5) 130 0 [(0, (2, 0)), (1, (0, v1)), (2, (0, v2)), (3, (0, v3))] [] φ x Q := by
  refine hw_ald (b := 0) (e := 0) (by decide +kernel) rfl (by decide) ?_
  refine hw_k (c := 4) (b := 0) (e := 1) (by decide +kernel) ?_
  refine hw_ld (b := 1) (e := 0) (by decide +kernel) rfl ?_
  refine hr_call (a0 := 10) (b := 70) (e := 3) (nl := 3) (As := [(0, 4), (0, v1)]) (R := []) 0 rfl (by decide +kernel) rfl rfl (Nat.le_of_ble_eq_true rfl) (Nat.le_of_ble_eq_true rfl) ?_
  refine hw_mono H ?_
  rintro r ψ1 y1 ⟨hyx, hψx, z1, hr, H⟩
  subst hyx
  subst hψx
  subst hr
  refine ⟨hne0, ?_⟩
  show hw sc (d + 5) 130 6 [(0, (2, 0)), (1, (0, v1)), (2, (0, v2)), (3, (0, v3))] [(0, z1)] φ y1 Q
  obtain ⟨hz2, ht2, hf2⟩ := H
  refine hw_if (a0 := 0) (b := 0) (e := 20) (by decide +kernel) hz2 (fun q => ?_) (fun q => ?_)
  · have H := ht2 q
    refine hw_k (c := (-1 : Int)) (b := 0) (e := 1) (by decide +kernel) ?_
    exact hw_ret (a0 := 0) (e := 0) (by decide +kernel) (Or.inl rfl) H
  · have H := hf2 q
    refine hw_ld (b := 2) (e := 0) (by decide +kernel) rfl ?_
    refine hw_k (c := 1) (b := 0) (e := 1) (by decide +kernel) ?_
    obtain ⟨hz4, hy4, ht4, hf4⟩ := H
    refine hw_if2 (a0 := 0) (b := 2) (e := 20) (by decide +kernel) hz4 hy4 (fun q => ?_) (fun q => ?_)
    · have H := ht4 q
      refine hw_k (c := (-1 : Int)) (b := 0) (e := 1) (by decide +kernel) ?_
      exact hw_ret (a0 := 0) (e := 0) (by decide +kernel) (Or.inl rfl) H
    · have H := hf4 q
      refine hw_ld (b := 2) (e := 0) (by decide +kernel) rfl ?_
      refine hw_k (c := 30) (b := 1) (e := 2) (by decide +kernel) ?_
      obtain ⟨hz6, hy6, ht6, hf6⟩ := H
      refine hw_if2 (a0 := 0) (b := 5) (e := 22) (by decide +kernel) hz6 hy6 (fun q => ?_) (fun q => ?_)
      · have H := ht6 q
        refine hw_k (c := 0) (b := 0) (e := 1) (by decide +kernel) ?_
        refine hw_st (L' := (jm_st1 [(0, (2, 0)), (1, (0, v1)), (2, (0, v2)), (3, (0, v3))] 4 (0, 0))) (b := 4) (e := 1) (by decide +kernel) rfl ?_
        refine hw_k (c := 0) (b := 0) (e := 1) (by decide +kernel) ?_
        refine hw_st (L' := (jm_st1 (jm_st1 [(0, (2, 0)), (1, (0, v1)), (2, (0, v2)), (3, (0, v3))] 4 (0, 0)) 5 (0, 0))) (b := 5) (e := 1) (by decide +kernel) rfl ?_
        exact H
      · have H := hf6 q
        refine hw_k (c := (-1 : Int)) (b := 0) (e := 1) (by decide +kernel) ?_
        exact hw_ret (a0 := 0) (e := 0) (by decide +kernel) (Or.inl rfl) H
theorem sf_130_0 {sc : List Int} {d : Nat} {φ : hf_F} {x : Nat} {Q : Option jm_V → hf_F → Nat → Prop} {v1 v2 v3 : Int} (hI : Inv φ) (h1a : (-2147483648 : Int) ≤ v1) (h1b : v1 ≤ 2147483647) (h2a : (-2147483648 : Int) ≤ v2) (h2b : v2 ≤ 2147483647) (h3a : (-2147483648 : Int) ≤ v3) (h3b : v3 ≤ 2147483647) (hQ : ∀ (r : Int) (ψ : hf_F), Inv ψ → Fr [44, 45, 46, 47, 48, 49, 50, 51, 44000, 44001, 44002, 44003, 44004, 44005, 189000] φ ψ → True → F_RideLaws_odds_0 φ v1 v2 v3 = (r, ψ) → Q (some (0, r)) ψ x) : hw sc (d + 5) 130 0 [(0, (2, 0)), (1, (0, v1)), (2, (0, v2)), (3, (0, v3))] [] φ x Q := by
  apply sf_130_0_v
  have e0 : F_RideLaws_odds_0 φ v1 v2 v3 = _ := rfl
  refine sf_70_0_k1_4 (φ := φ) hI (by omega) (by omega) (fun z1 hp1 hE1 => ⟨rfl, rfl, z1, rfl, ?_⟩)
  have e1 := e0.trans (bnp_e hE1)
  have f1 := iv_at (a := 6) (k := 4) (lo := 0) (u := 8) hI (by decide +kernel)
  refine ⟨by unfold hi; omega, fun q2 => ?_, fun q2 => ?_⟩
  · skip
    have e2a := e1.trans (if_pos q2)
    exact hQ (-1 : Int) φ hI (fr_rf) trivial e2a
  · skip
    have e2b := e1.trans (if_neg q2)
    refine ⟨by unfold hi; omega, by unfold hi; omega, fun q4 => ?_, fun q4 => ?_⟩
    · skip
      have e4a := e2b.trans (if_pos q4)
      exact hQ (-1 : Int) φ hI (fr_rf) trivial e4a
    · skip
      have e4b := e2b.trans (if_neg q4)
      refine ⟨by unfold hi; omega, by unfold hi; omega, fun q6 => ?_, fun q6 => ?_⟩
      · skip
        have e6a := e4b.trans (if_pos q6)
        exact sf_130_0_l28 ((30 - 0 : Int).toNat + 1) φ (jm_st1 (jm_st1 [(0, (2, 0)), (1, (0, v1)), (2, (0, v2)), (3, (0, v3))] 4 (0, 0)) 5 (0, 0)) v1 v2 v3 0 0 (get_st1 (get_st1 rfl (by decide) (fun q => absurd q.1 (by decide))) (by decide) (fun q => absurd q.1 (by decide))) (get_st1 (get_st1 rfl (by decide) (fun q => absurd q.1 (by decide))) (by decide) (fun q => absurd q.1 (by decide))) (get_st1 (get_st1 rfl (by decide) (fun q => absurd q.1 (by decide))) (by decide) (fun q => absurd q.1 (by decide))) (get_st1 (get_st1 rfl (by decide) (fun q => tg0 q.2)) (by decide) (fun q => absurd q.1 (by decide))) (get_st1 get_st1e (by decide) (fun q => tg0 q.2)) get_st1e hI (by omega) (by omega) (by omega) (by omega) (by omega) (by omega) (by omega) (by omega) (by omega) (by omega) (fun rr χ hIχ hFχ hpχ hEχ => hQ rr χ hIχ (fr_tr (fr_rf) hFχ (by decide)) hpχ (e6a.trans hEχ))
      · skip
        have e6b := e4b.trans (if_neg q6)
        exact hQ (-1 : Int) φ hI (fr_rf) trivial e6b
