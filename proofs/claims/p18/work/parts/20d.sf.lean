theorem sf_124_17_v {sc : List Int} {d : Nat} {φ : hf_F} {x : Nat} {Q : Option jm_V → hf_F → Nat → Prop} {v1 : Int}
    (H : 0 ≤ v1 ∧ v1 < 6 ∧ (hi (φ 21 ((v1).toNat)) ∧ (¬ (φ 21 ((v1).toNat)) = 0 → 0 ≤ v1 ∧ v1 < 6 ∧ (hw sc d 71 0 [(0, (2, 17)), (1, (0, v1)), (2, (0, φ 23 ((v1).toNat)))] [] φ x (fun r ψ4 y4 => y4 = x ∧ φ = ψ4 ∧ (∃ z4 : Int, r = some (0, z4) ∧ (Q (some (0, z4)) φ x))))) ∧ (¬ (¬ (φ 21 ((v1).toNat)) = 0) → Q (some (0, (-1 : Int))) φ x))) :
    hw sc (d + 1) 124 0 [(0, (2, 17)), (1, (0, v1))] [] φ x Q := by
  refine hw_ald (b := 0) (e := 0) (by decide +kernel) rfl (by decide) ?_
  refine hr_gr (w := 21) (b := 4) (e := 9) 17 rfl (by decide +kernel) ?_
  refine hw_ld (b := 1) (e := 0) (by decide +kernel) rfl ?_
  obtain ⟨hl1, hu1, H⟩ := H
  refine hr_al (b := 0) (a0 := 0) (e := 0) (n := 6) (w := φ 21 ((v1).toNat)) 21 rfl (by decide +kernel) (by decide) hl1 hu1 rfl ?_
  obtain ⟨hz2, ht2, hf2⟩ := H
  refine hw_if (a0 := 0) (b := 1) (e := 13) (by decide +kernel) hz2 (fun q => ?_) (fun q => ?_)
  · have H := ht2 q
    refine hw_ald (b := 0) (e := 0) (by decide +kernel) rfl (by decide) ?_
    refine hw_ld (b := 1) (e := 0) (by decide +kernel) rfl ?_
    refine hw_ald (b := 0) (e := 0) (by decide +kernel) rfl (by decide) ?_
    refine hr_gr (w := 23) (b := 4) (e := 11) 17 rfl (by decide +kernel) ?_
    refine hw_ld (b := 1) (e := 0) (by decide +kernel) rfl ?_
    obtain ⟨hl3, hu3, H⟩ := H
    refine hr_al (b := 0) (a0 := 0) (e := 0) (n := 6) (w := φ 23 ((v1).toNat)) 23 rfl (by decide +kernel) (by decide) hl3 hu3 rfl ?_
    refine hr_call (a0 := 14) (b := 71) (e := 3) (nl := 3) (As := [(0, v1), (0, φ 23 ((v1).toNat))]) (R := []) 17 rfl (by decide +kernel) rfl rfl (Nat.le_of_ble_eq_true rfl) (Nat.le_of_ble_eq_true rfl) ?_
    refine hw_mono H ?_
    rintro r ψ4 y4 ⟨hyx, hψx, z4, hr, H⟩
    subst hyx
    subst hψx
    subst hr
    refine ⟨hne0, ?_⟩
    show hw sc (d + 1) 124 24 [(0, (2, 17)), (1, (0, v1))] [(0, z4)] φ y4 Q
    exact hw_ret (a0 := 0) (e := 0) (by decide +kernel) (Or.inl rfl) H
  · have H := hf2 q
    refine hw_k (c := (-1 : Int)) (b := 0) (e := 1) (by decide +kernel) ?_
    refine hw_goto (a0 := 0) (b := 0) (e := 24) (by decide +kernel) ?_
    exact hw_ret (a0 := 0) (e := 0) (by decide +kernel) (Or.inl rfl) H
theorem sf_124_17 {sc : List Int} {d : Nat} {φ : hf_F} {x : Nat} {Q : Option jm_V → hf_F → Nat → Prop} {v1 : Int} (hI : Inv φ) (h1a : 0 ≤ v1) (h1b : v1 ≤ 5) (hQ : ∀ (r : Int), (-1 : Int) ≤ r ∧ r ≤ 7 → F_State_nextWord_17 φ v1 = r → Q (some (0, r)) φ x) : hw sc (d + 1) 124 0 [(0, (2, 17)), (1, (0, v1))] [] φ x Q := by
  apply sf_124_17_v
  have e0 : F_State_nextWord_17 φ v1 = _ := rfl
  refine ⟨by omega, by omega, ?_⟩
  have f1 := iv_ar (a := 21) (s := 0) (t := 6) (lo := 0) (u := 6) (z := v1) hI (by decide +kernel) (by omega) (by omega)
  refine ⟨by unfold hi; omega, fun q2 => ?_, fun q2 => ?_⟩
  · skip
    have e2a := e0.trans (if_pos q2)
    refine ⟨by omega, by omega, ?_⟩
    have f2 := iv_ar (a := 23) (s := 0) (t := 6) (lo := 0) (u := 5) (z := v1) hI (by decide +kernel) (by omega) (by omega)
    refine sf_71_17 (φ := φ) hI (by omega) (by omega) (by omega) (by omega) (fun z4 hp4 hE4 => ⟨rfl, rfl, z4, rfl, ?_⟩)
    have e4 := e2a.trans (bnp_e hE4)
    exact hQ z4 ⟨by omega, by omega⟩ e4
  · skip
    have e2b := e0.trans (if_neg q2)
    exact hQ (-1 : Int) ⟨by omega, by omega⟩ e2b
theorem sf_160_0_v {sc : List Int} {d : Nat} {φ : hf_F} {x : Nat} {Q : Option jm_V → hf_F → Nat → Prop} {v1 v2 : Int}
    (H : hw sc (d + 1) 70 0 [(0, (2, 0)), (1, (0, 3)), (2, (0, v1))] [] φ x (fun r ψ1 y1 => y1 = x ∧ φ = ψ1 ∧ (∃ z1 : Int, r = some (0, z1) ∧ (hi z1 ∧ (z1 = 0 → 10 ≤ (d + 2) ∧ Q (some (9, 0)) φ (x + 1)) ∧ (¬ z1 = 0 → hi v2 ∧ (v2 < 0 → 10 ≤ (d + 2) ∧ Q (some (9, 0)) φ (x + 1)) ∧ (¬ v2 < 0 → hi v2 ∧ hi 4 ∧ (v2 ≤ 4 → hi v2 ∧ (v2 = 0 → 0 ≤ v1 ∧ v1 < 6 ∧ (Q (some (0, φ 20 ((v1).toNat))) φ x)) ∧ (v2 = 1 → 0 ≤ v1 ∧ v1 < 6 ∧ (Q (some (0, φ 21 ((v1).toNat))) φ x)) ∧ (v2 = 2 → hw sc (d + 1) 124 0 [(0, (2, 17)), (1, (0, v1))] [] φ x (fun r ψ12 y12 => y12 = x ∧ φ = ψ12 ∧ (∃ z12 : Int, r = some (0, z12) ∧ (Q (some (0, z12)) φ x)))) ∧ (v2 = 3 → 0 ≤ v1 ∧ v1 < 6 ∧ (Q (some (0, φ 24 ((v1).toNat))) φ x)) ∧ ((v2 < 0 ∨ 4 ≤ v2) → hw sc (d + 1) 108 0 [(0, (2, 17)), (1, (0, v1))] [] φ x (fun r ψ16 y16 => y16 = x ∧ φ = ψ16 ∧ (∃ z16 : Int, r = some (0, z16) ∧ (Q (some (0, z16)) φ x))))) ∧ (¬ v2 ≤ 4 → 10 ≤ (d + 2) ∧ Q (some (9, 0)) φ (x + 1)))))))) :
    hw sc (d + 2) 160 0 [(0, (2, 0)), (1, (0, v1)), (2, (0, v2))] [] φ x Q := by
  refine hw_ald (b := 0) (e := 0) (by decide +kernel) rfl (by decide) ?_
  refine hw_k (c := 3) (b := 0) (e := 1) (by decide +kernel) ?_
  refine hw_ld (b := 1) (e := 0) (by decide +kernel) rfl ?_
  refine hr_call (a0 := 10) (b := 70) (e := 3) (nl := 3) (As := [(0, 3), (0, v1)]) (R := []) 0 rfl (by decide +kernel) rfl rfl (Nat.le_of_ble_eq_true rfl) (Nat.le_of_ble_eq_true rfl) ?_
  refine hw_mono H ?_
  rintro r ψ1 y1 ⟨hyx, hψx, z1, hr, H⟩
  subst hyx
  subst hψx
  subst hr
  refine ⟨hne0, ?_⟩
  show hw sc (d + 2) 160 6 [(0, (2, 0)), (1, (0, v1)), (2, (0, v2))] [(0, z1)] φ y1 Q
  obtain ⟨hz2, ht2, hf2⟩ := H
  refine hw_if (a0 := 0) (b := 0) (e := 18) (by decide +kernel) hz2 (fun q => ?_) (fun q => ?_)
  · have H := ht2 q
    exact hw_thr (a0 := 0) (b := 5) (e := 0) (by decide +kernel) H.1 (Nat.le_of_ble_eq_true rfl) H.2
  · have H := hf2 q
    refine hw_ld (b := 2) (e := 0) (by decide +kernel) rfl ?_
    obtain ⟨hz4, ht4, hf4⟩ := H
    refine hw_if (a0 := 0) (b := 2) (e := 18) (by decide +kernel) hz4 (fun q => ?_) (fun q => ?_)
    · have H := ht4 q
      exact hw_thr (a0 := 0) (b := 5) (e := 0) (by decide +kernel) H.1 (Nat.le_of_ble_eq_true rfl) H.2
    · have H := hf4 q
      refine hw_ld (b := 2) (e := 0) (by decide +kernel) rfl ?_
      refine hw_k (c := 4) (b := 0) (e := 1) (by decide +kernel) ?_
      obtain ⟨hz6, hy6, ht6, hf6⟩ := H
      refine hw_if2 (a0 := 0) (b := 5) (e := 28) (by decide +kernel) hz6 hy6 (fun q => ?_) (fun q => ?_)
      · have H := ht6 q
        refine hw_ld (b := 2) (e := 0) (by decide +kernel) rfl ?_
        obtain ⟨hz7, H⟩ := H
        refine hr_tsw (T := [60, 73, 86, 98]) (lo := 0) (nn := 4) (b := 111) (e := 8) (by decide +kernel) rfl hz7 ?_ ?_
        · intro q
          have H := H.2.2.2.2 q
          refine hw_ald (b := 0) (e := 0) (by decide +kernel) rfl (by decide) ?_
          refine hr_gr (w := 4) (b := 0) (e := 1) 0 rfl (by decide +kernel) ?_
          refine hr_gr (w := 17) (b := 2) (e := 1) 4 rfl (by decide +kernel) ?_
          refine hw_ld (b := 1) (e := 0) (by decide +kernel) rfl ?_
          refine hr_call (a0 := 14) (b := 108) (e := 2) (nl := 4) (As := [(0, v1)]) (R := []) 17 rfl (by decide +kernel) rfl rfl (Nat.le_of_ble_eq_true rfl) (Nat.le_of_ble_eq_true rfl) ?_
          refine hw_mono H ?_
          rintro r ψ16 y16 ⟨hyx, hψx, z16, hr, H⟩
          subst hyx
          subst hψx
          subst hr
          refine ⟨hne0, ?_⟩
          show hw sc (d + 2) 160 122 [(0, (2, 0)), (1, (0, v1)), (2, (0, v2))] [(0, z16)] φ y16 Q
          exact hw_ret (a0 := 0) (e := 0) (by decide +kernel) (Or.inl rfl) H
        · intro kq tq htq hzq
          match kq, htq, hzq with
          | 0, htq, hzq =>
            cases htq
            have H := H.1 (by omega)
            refine hw_ald (b := 0) (e := 0) (by decide +kernel) rfl (by decide) ?_
            refine hr_gr (w := 4) (b := 0) (e := 1) 0 rfl (by decide +kernel) ?_
            refine hr_gr (w := 17) (b := 2) (e := 1) 4 rfl (by decide +kernel) ?_
            refine hr_gr (w := 20) (b := 4) (e := 8) 17 rfl (by decide +kernel) ?_
            refine hw_ld (b := 1) (e := 0) (by decide +kernel) rfl ?_
            obtain ⟨hl8, hu8, H⟩ := H
            refine hr_al (b := 0) (a0 := 0) (e := 0) (n := 6) (w := φ 20 ((v1).toNat)) 20 rfl (by decide +kernel) (by decide) hl8 hu8 rfl ?_
            exact hw_ret (a0 := 0) (e := 0) (by decide +kernel) (Or.inl rfl) H
          | 1, htq, hzq =>
            cases htq
            have H := H.2.1 (by omega)
            refine hw_ald (b := 0) (e := 0) (by decide +kernel) rfl (by decide) ?_
            refine hr_gr (w := 4) (b := 0) (e := 1) 0 rfl (by decide +kernel) ?_
            refine hr_gr (w := 17) (b := 2) (e := 1) 4 rfl (by decide +kernel) ?_
            refine hr_gr (w := 21) (b := 4) (e := 9) 17 rfl (by decide +kernel) ?_
            refine hw_ld (b := 1) (e := 0) (by decide +kernel) rfl ?_
            obtain ⟨hl10, hu10, H⟩ := H
            refine hr_al (b := 0) (a0 := 0) (e := 0) (n := 6) (w := φ 21 ((v1).toNat)) 21 rfl (by decide +kernel) (by decide) hl10 hu10 rfl ?_
            exact hw_ret (a0 := 0) (e := 0) (by decide +kernel) (Or.inl rfl) H
          | 2, htq, hzq =>
            cases htq
            have H := H.2.2.1 (by omega)
            refine hw_ald (b := 0) (e := 0) (by decide +kernel) rfl (by decide) ?_
            refine hr_gr (w := 4) (b := 0) (e := 1) 0 rfl (by decide +kernel) ?_
            refine hr_gr (w := 17) (b := 2) (e := 1) 4 rfl (by decide +kernel) ?_
            refine hw_ld (b := 1) (e := 0) (by decide +kernel) rfl ?_
            refine hr_call (a0 := 14) (b := 124) (e := 2) (nl := 2) (As := [(0, v1)]) (R := []) 17 rfl (by decide +kernel) rfl rfl (Nat.le_of_ble_eq_true rfl) (Nat.le_of_ble_eq_true rfl) ?_
            refine hw_mono H ?_
            rintro r ψ12 y12 ⟨hyx, hψx, z12, hr, H⟩
            subst hyx
            subst hψx
            subst hr
            refine ⟨hne0, ?_⟩
            show hw sc (d + 2) 160 97 [(0, (2, 0)), (1, (0, v1)), (2, (0, v2))] [(0, z12)] φ y12 Q
            exact hw_ret (a0 := 0) (e := 0) (by decide +kernel) (Or.inl rfl) H
          | 3, htq, hzq =>
            cases htq
            have H := H.2.2.2.1 (by omega)
            refine hw_ald (b := 0) (e := 0) (by decide +kernel) rfl (by decide) ?_
            refine hr_gr (w := 4) (b := 0) (e := 1) 0 rfl (by decide +kernel) ?_
            refine hr_gr (w := 17) (b := 2) (e := 1) 4 rfl (by decide +kernel) ?_
            refine hr_gr (w := 24) (b := 4) (e := 12) 17 rfl (by decide +kernel) ?_
            refine hw_ld (b := 1) (e := 0) (by decide +kernel) rfl ?_
            obtain ⟨hl14, hu14, H⟩ := H
            refine hr_al (b := 0) (a0 := 0) (e := 0) (n := 6) (w := φ 24 ((v1).toNat)) 24 rfl (by decide +kernel) (by decide) hl14 hu14 rfl ?_
            exact hw_ret (a0 := 0) (e := 0) (by decide +kernel) (Or.inl rfl) H
          | kq + 4, htq, _ => cases htq
      · have H := hf6 q
        exact hw_thr (a0 := 0) (b := 5) (e := 0) (by decide +kernel) H.1 (Nat.le_of_ble_eq_true rfl) H.2
theorem sf_160_0 {sc : List Int} {d : Nat} {φ : hf_F} {x : Nat} {Q : Option jm_V → hf_F → Nat → Prop} {v1 v2 : Int} (hI : Inv φ) (h1a : (-2147483648 : Int) ≤ v1) (h1b : v1 ≤ 2147483647) (h2a : (-2147483648 : Int) ≤ v2) (h2b : v2 ≤ 2147483647) (hd : 10 ≤ (d + 2)) (hT : ∀ ψ : hf_F, Inv ψ → Fr [] φ ψ → F_RideLaws_rider_0 φ v1 v2 = none → Q (some (9, 0)) ψ (x + 1)) (hQ : ∀ (r : Int), True → F_RideLaws_rider_0 φ v1 v2 = some r → Q (some (0, r)) φ x) : hw sc (d + 2) 160 0 [(0, (2, 0)), (1, (0, v1)), (2, (0, v2))] [] φ x Q := by
  apply sf_160_0_v
  have e0 : F_RideLaws_rider_0 φ v1 v2 = _ := rfl
  refine sf_70_0_k1_3 (φ := φ) hI (by omega) (by omega) (fun z1 hp1 hE1 => ⟨rfl, rfl, z1, rfl, ?_⟩)
  have e1 := e0.trans (bnp_e hE1)
  have f1 := iv_at (a := 6) (k := 3) (lo := 0) (u := 6) hI (by decide +kernel)
  refine ⟨by unfold hi; omega, fun q2 => ?_, fun q2 => ?_⟩
  · skip
    have e2a := e1.trans (if_pos q2)
    exact ⟨hd, hT φ hI (fr_rf) e2a⟩
  · skip
    have e2b := e1.trans (if_neg q2)
    refine ⟨by unfold hi; omega, fun q4 => ?_, fun q4 => ?_⟩
    · skip
      have e4a := e2b.trans (if_pos q4)
      exact ⟨hd, hT φ hI (fr_rf) e4a⟩
    · skip
      have e4b := e2b.trans (if_neg q4)
      refine ⟨by unfold hi; omega, by unfold hi; omega, fun q6 => ?_, fun q6 => ?_⟩
      · skip
        have e6a := e4b.trans (if_pos q6)
        refine ⟨by unfold hi; omega, fun q7 => ?_, fun q7 => ?_, fun q7 => ?_, fun q7 => ?_, fun q7 => ?_⟩
        · skip
          have e7_0 := (e6a).trans (if_pos q7)
          refine ⟨by omega, by omega, ?_⟩
          have f2 := iv_ar (a := 20) (s := 0) (t := 6) (lo := (-1 : Int)) (u := 7) (z := v1) hI (by decide +kernel) (by omega) (by omega)
          exact hQ (φ 20 ((v1).toNat)) trivial e7_0
        · skip
          have e7_1 := ((e6a).trans (if_neg (by omega))).trans (if_pos q7)
          refine ⟨by omega, by omega, ?_⟩
          have f3 := iv_ar (a := 21) (s := 0) (t := 6) (lo := 0) (u := 6) (z := v1) hI (by decide +kernel) (by omega) (by omega)
          exact hQ (φ 21 ((v1).toNat)) trivial e7_1
        · skip
          have e7_2 := (((e6a).trans (if_neg (by omega))).trans (if_neg (by omega))).trans (if_pos q7)
          refine sf_124_17 (φ := φ) hI (by omega) (by omega) (fun z12 hp12 hE12 => ⟨rfl, rfl, z12, rfl, ?_⟩)
          have e12 := e7_2.trans (bnp_e hE12)
          exact hQ z12 trivial e12
        · skip
          have e7_3 := ((((e6a).trans (if_neg (by omega))).trans (if_neg (by omega))).trans (if_neg (by omega))).trans (if_pos q7)
          refine ⟨by omega, by omega, ?_⟩
          exact hQ (φ 24 ((v1).toNat)) trivial e7_3
        · skip
          have e7_4 := ((((e6a).trans (if_neg (by omega))).trans (if_neg (by omega))).trans (if_neg (by omega))).trans (if_neg (by omega))
          refine sf_108_17 (φ := φ) hI (by omega) (by omega) (fun z16 hp16 hE16 => ⟨rfl, rfl, z16, rfl, ?_⟩)
          have e16 := e7_4.trans (bnp_e hE16)
          exact hQ z16 trivial e16
      · skip
        have e6b := e4b.trans (if_neg q6)
        exact ⟨hd, hT φ hI (fr_rf) e6b⟩
theorem sf_200_192_v {sc : List Int} {d : Nat} {φ : hf_F} {x : Nat} {Q : Option jm_V → hf_F → Nat → Prop} 
    (H : Q (some (0, φ 192 15)) (hf_up φ 192 0 0) x) :
    hw sc d 200 0 [(0, (2, 192))] [] φ x Q := by
  refine hw_ald (b := 0) (e := 0) (by decide +kernel) rfl (by decide) ?_
  refine hw_k (c := 0) (b := 0) (e := 1) (by decide +kernel) ?_
  refine hr_pi (b := 12) (e := 0) 192 rfl (by decide +kernel) ?_
  refine hw_ald (b := 0) (e := 0) (by decide +kernel) rfl (by decide) ?_
  refine hr_gi (w := φ 192 15) (b := 12) (e := 15) 192 rfl (by decide +kernel) (hf_up_ne (fun q => absurd q.2 (by decide))) ?_
  exact hw_ret (a0 := 0) (e := 0) (by decide +kernel) (Or.inl rfl) H
theorem sf_200_192 {sc : List Int} {d : Nat} {φ : hf_F} {x : Nat} {Q : Option jm_V → hf_F → Nat → Prop}  (hI : Inv φ)  (hQ : ∀ (r : Int) (ψ : hf_F), Inv ψ → Fr [193000] φ ψ → True → F_RideLawsModel_fault_192 φ = (r, ψ) → Q (some (0, r)) ψ x) : hw sc d 200 0 [(0, (2, 192))] [] φ x Q := by
  apply sf_200_192_v
  have e0 : F_RideLawsModel_fault_192 φ = _ := rfl
  have i1 : Inv (hf_up φ 192 0 0) := iv_up (lo := 0) (u := 1) hI (by decide +kernel) (by omega) (by omega)
  have r1 : Fr [193000] φ (hf_up φ 192 0 0) := fr_up (fr_rf) (by decide)
  have f2 := iv_at (a := 192) (k := 15) (lo := 0) (u := 4) hI (by decide +kernel)
  exact hQ (φ 192 15) (hf_up φ 192 0 0) i1 r1 trivial e0
theorem sf_170_192_v {sc : List Int} {d : Nat} {φ : hf_F} {x : Nat} {Q : Option jm_V → hf_F → Nat → Prop} {v1 : Int}
    (H : hi v1 ∧ (v1 < 0 → Q (some (0, 0)) (hf_up φ 192 0 0) x) ∧ (¬ v1 < 0 → hi v1 ∧ hi (φ 192 2) ∧ (v1 ≤ (φ 192 2) → Q (some (0, 1)) (hf_up (hf_up φ 192 0 0) 192 2 v1) x) ∧ (¬ v1 ≤ (φ 192 2) → Q (some (0, 0)) (hf_up φ 192 0 0) x))) :
    hw sc d 170 0 [(0, (2, 192)), (1, (0, v1))] [] φ x Q := by
  refine hw_ald (b := 0) (e := 0) (by decide +kernel) rfl (by decide) ?_
  refine hw_k (c := 0) (b := 0) (e := 1) (by decide +kernel) ?_
  refine hr_pi (b := 12) (e := 0) 192 rfl (by decide +kernel) ?_
  refine hw_ld (b := 1) (e := 0) (by decide +kernel) rfl ?_
  obtain ⟨hz1, ht1, hf1⟩ := H
  refine hw_if (a0 := 0) (b := 2) (e := 17) (by decide +kernel) hz1 (fun q => ?_) (fun q => ?_)
  · have H := ht1 q
    refine hw_k (c := 0) (b := 0) (e := 1) (by decide +kernel) ?_
    exact hw_ret (a0 := 0) (e := 1) (by decide +kernel) (Or.inr ⟨rfl, by decide⟩) H
  · have H := hf1 q
    refine hw_ld (b := 1) (e := 0) (by decide +kernel) rfl ?_
    refine hw_ald (b := 0) (e := 0) (by decide +kernel) rfl (by decide) ?_
    refine hr_gi (w := φ 192 2) (b := 12) (e := 2) 192 rfl (by decide +kernel) (hf_up_ne (fun q => absurd q.2 (by decide))) ?_
    obtain ⟨hz3, hy3, ht3, hf3⟩ := H
    refine hw_if2 (a0 := 0) (b := 5) (e := 19) (by decide +kernel) hz3 hy3 (fun q => ?_) (fun q => ?_)
    · have H := ht3 q
      refine hw_ald (b := 0) (e := 0) (by decide +kernel) rfl (by decide) ?_
      refine hw_ld (b := 1) (e := 0) (by decide +kernel) rfl ?_
      refine hr_pi (b := 12) (e := 2) 192 rfl (by decide +kernel) ?_
      refine hw_k (c := 1) (b := 0) (e := 1) (by decide +kernel) ?_
      exact hw_ret (a0 := 0) (e := 1) (by decide +kernel) (Or.inr ⟨rfl, by decide⟩) H
    · have H := hf3 q
      refine hw_k (c := 0) (b := 0) (e := 1) (by decide +kernel) ?_
      exact hw_ret (a0 := 0) (e := 1) (by decide +kernel) (Or.inr ⟨rfl, by decide⟩) H
theorem sf_170_192 {sc : List Int} {d : Nat} {φ : hf_F} {x : Nat} {Q : Option jm_V → hf_F → Nat → Prop} {v1 : Int} (hI : Inv φ) (h1a : (-2147483648 : Int) ≤ v1) (h1b : v1 ≤ 2147483647) (hQ : ∀ (r : Int) (ψ : hf_F), Inv ψ → Fr [193000, 193002] φ ψ → 0 ≤ r ∧ r ≤ 1 ∧ ((r = 0 ∧ (v1 < 0 ∨ φ 192 2 < v1) ∧ ψ 192 2 = φ 192 2) ∨ (r = 1 ∧ 0 ≤ v1 ∧ v1 ≤ φ 192 2 ∧ ψ 192 2 = v1)) → F_RideLawsModel_end_192 φ v1 = (r, ψ) → Q (some (0, r)) ψ x) : hw sc d 170 0 [(0, (2, 192)), (1, (0, v1))] [] φ x Q := by
  apply sf_170_192_v
  have e0 : F_RideLawsModel_end_192 φ v1 = _ := rfl
  have i1 : Inv (hf_up φ 192 0 0) := iv_up (lo := 0) (u := 1) hI (by decide +kernel) (by omega) (by omega)
  have r1 : Fr [193000, 193002] φ (hf_up φ 192 0 0) := fr_up (fr_rf) (by decide)
  refine ⟨by unfold hi; omega, fun q1 => ?_, fun q1 => ?_⟩
  · skip
    have e1a := e0.trans (if_pos q1)
    have f2 := iv_at (a := 192) (k := 2) (lo := 0) (u := 940) hI (by decide +kernel)
    have f3 : (hf_up φ 192 0 0) 192 2 = φ 192 2 := (hf_up_ne (fun q => absurd q.2 (by decide)))
    exact hQ 0 (hf_up φ 192 0 0) i1 r1 ⟨by omega, by omega, by omega⟩ e1a
  · skip
    have e1b := e0.trans (if_neg q1)
    have f4 := iv_at (a := 192) (k := 2) (lo := 0) (u := 940) hI (by decide +kernel)
    refine ⟨by unfold hi; omega, by unfold hi; omega, fun q3 => ?_, fun q3 => ?_⟩
    · skip
      have e3a := e1b.trans (if_pos q3)
      have i5 : Inv (hf_up (hf_up φ 192 0 0) 192 2 v1) := iv_up (lo := 0) (u := 940) i1 (by decide +kernel) (by omega) (by omega)
      have r5 : Fr [193000, 193002] φ (hf_up (hf_up φ 192 0 0) 192 2 v1) := fr_up r1 (by decide)
      have f6 : (hf_up (hf_up φ 192 0 0) 192 2 v1) 192 2 = v1 := hf_up_eq
      exact hQ 1 (hf_up (hf_up φ 192 0 0) 192 2 v1) i5 r5 ⟨by omega, by omega, by omega⟩ e3a
    · skip
      have e3b := e1b.trans (if_neg q3)
      have f7 : (hf_up φ 192 0 0) 192 2 = φ 192 2 := (hf_up_ne (fun q => absurd q.2 (by decide)))
      exact hQ 0 (hf_up φ 192 0 0) i1 r1 ⟨by omega, by omega, by omega⟩ e3b
theorem sf_188_v {sc : List Int} {d : Nat} {φ : hf_F} {x : Nat} {Q : Option jm_V → hf_F → Nat → Prop} {v0 v1 v2 : Int}
    (H : hi v0 ∧ hi v1 ∧ (v0 < v1 → Q (some (0, 0)) φ x) ∧ (¬ v0 < v1 → hi v0 ∧ hi v2 ∧ (v2 < v0 → Q (some (0, 0)) φ x) ∧ (¬ v2 < v0 → Q (some (0, 1)) φ x))) :
    hw sc d 188 0 [(0, (0, v0)), (1, (0, v1)), (2, (0, v2))] [] φ x Q := by
  refine hw_ld (b := 0) (e := 0) (by decide +kernel) rfl ?_
  refine hw_ld (b := 1) (e := 0) (by decide +kernel) rfl ?_
  obtain ⟨hz1, hy1, ht1, hf1⟩ := H
  refine hw_if2 (a0 := 0) (b := 2) (e := 14) (by decide +kernel) hz1 hy1 (fun q => ?_) (fun q => ?_)
  · have H := ht1 q
    refine hw_k (c := 0) (b := 0) (e := 1) (by decide +kernel) ?_
    exact hw_ret (a0 := 0) (e := 1) (by decide +kernel) (Or.inr ⟨rfl, by decide⟩) H
  · have H := hf1 q
    refine hw_ld (b := 0) (e := 0) (by decide +kernel) rfl ?_
    refine hw_ld (b := 2) (e := 0) (by decide +kernel) rfl ?_
    obtain ⟨hz3, hy3, ht3, hf3⟩ := H
    refine hw_if2 (a0 := 0) (b := 4) (e := 14) (by decide +kernel) hz3 hy3 (fun q => ?_) (fun q => ?_)
    · have H := ht3 q
      refine hw_k (c := 0) (b := 0) (e := 1) (by decide +kernel) ?_
      exact hw_ret (a0 := 0) (e := 1) (by decide +kernel) (Or.inr ⟨rfl, by decide⟩) H
    · have H := hf3 q
      refine hw_k (c := 1) (b := 0) (e := 1) (by decide +kernel) ?_
      refine hw_goto (a0 := 0) (b := 0) (e := 15) (by decide +kernel) ?_
      exact hw_ret (a0 := 0) (e := 1) (by decide +kernel) (Or.inr ⟨rfl, by decide⟩) H
theorem sf_188 {sc : List Int} {d : Nat} {φ : hf_F} {x : Nat} {Q : Option jm_V → hf_F → Nat → Prop} {v0 v1 v2 : Int} (hI : Inv φ) (h0a : (-2147483648 : Int) ≤ v0) (h0b : v0 ≤ 2147483647) (h1a : (-2147483648 : Int) ≤ v1) (h1b : v1 ≤ 2147483647) (h2a : (-2147483648 : Int) ≤ v2) (h2b : v2 ≤ 2147483647) (hQ : ∀ (r : Int), 0 ≤ r ∧ r ≤ 1 ∧ ((r = 1 → v1 ≤ v0 ∧ v0 ≤ v2) ∧ (r = 0 → v0 < v1 ∨ v2 < v0)) → F_RideLawsModel_isIn φ v0 v1 v2 = r → Q (some (0, r)) φ x) : hw sc d 188 0 [(0, (0, v0)), (1, (0, v1)), (2, (0, v2))] [] φ x Q := by
  apply sf_188_v
  have e0 : F_RideLawsModel_isIn φ v0 v1 v2 = _ := rfl
  refine ⟨by unfold hi; omega, by unfold hi; omega, fun q1 => ?_, fun q1 => ?_⟩
  · skip
    have e1a := e0.trans (if_pos q1)
    exact hQ 0 ⟨by omega, by omega, by omega⟩ e1a
  · skip
    have e1b := e0.trans (if_neg q1)
    refine ⟨by unfold hi; omega, by unfold hi; omega, fun q3 => ?_, fun q3 => ?_⟩
    · skip
      have e3a := e1b.trans (if_pos q3)
      exact hQ 0 ⟨by omega, by omega, by omega⟩ e3a
    · skip
      have e3b := e1b.trans (if_neg q3)
      exact hQ 1 ⟨by omega, by omega, by omega⟩ e3b
theorem sf_262_192_v {sc : List Int} {d : Nat} {φ : hf_F} {x : Nat} {Q : Option jm_V → hf_F → Nat → Prop} {v1 : Int}
    (H : hi (φ 192 32) ∧ ((φ 192 32) = 0 → Q (some (0, (-1 : Int))) (hf_up φ 192 0 0) x) ∧ (¬ (φ 192 32) = 0 → hw sc d 188 0 [(0, (0, v1)), (1, (0, 0)), (2, (0, 3))] [] (hf_up φ 192 0 0) x (fun r ψ3 y3 => y3 = x ∧ (hf_up φ 192 0 0) = ψ3 ∧ (∃ z3 : Int, r = some (0, z3) ∧ (hi z3 ∧ (z3 = 0 → Q (some (0, (-1 : Int))) (hf_up φ 192 0 0) x) ∧ (¬ z3 = 0 → 0 ≤ v1 ∧ v1 < 4 ∧ (Q (some (0, φ 202 ((v1).toNat))) (hf_up φ 192 0 0) x))))))) :
    hw sc (d + 1) 262 0 [(0, (2, 192)), (1, (0, v1))] [] φ x Q := by
  refine hw_ald (b := 0) (e := 0) (by decide +kernel) rfl (by decide) ?_
  refine hw_k (c := 0) (b := 0) (e := 1) (by decide +kernel) ?_
  refine hr_pi (b := 12) (e := 0) 192 rfl (by decide +kernel) ?_
  refine hw_ald (b := 0) (e := 0) (by decide +kernel) rfl (by decide) ?_
  refine hr_gz (w := φ 192 32) (b := 12) (e := 32) 192 rfl (by decide +kernel) (hf_up_ne (fun q => absurd q.2 (by decide))) ?_
  obtain ⟨hz1, ht1, hf1⟩ := H
  refine hw_if (a0 := 0) (b := 0) (e := 30) (by decide +kernel) hz1 (fun q => ?_) (fun q => ?_)
  · have H := ht1 q
    refine hw_k (c := (-1 : Int)) (b := 0) (e := 1) (by decide +kernel) ?_
    exact hw_ret (a0 := 0) (e := 0) (by decide +kernel) (Or.inl rfl) H
  · have H := hf1 q
    refine hw_ld (b := 1) (e := 0) (by decide +kernel) rfl ?_
    refine hw_k (c := 0) (b := 0) (e := 1) (by decide +kernel) ?_
    refine hw_k (c := 3) (b := 0) (e := 1) (by decide +kernel) ?_
    refine hr_calls (b := 188) (e := 3) (nl := 3) (As := [(0, v1), (0, 0), (0, 3)]) (R := []) (by decide +kernel) rfl rfl (Nat.le_of_ble_eq_true rfl) (Nat.le_of_ble_eq_true rfl) ?_
    refine hw_mono H ?_
    rintro r ψ3 y3 ⟨hyx, hψx, z3, hr, H⟩
    subst hyx
    subst hψx
    subst hr
    refine ⟨hne0, ?_⟩
    show hw sc (d + 1) 262 18 [(0, (2, 192)), (1, (0, v1))] [(0, z3)] (hf_up φ 192 0 0) y3 Q
    obtain ⟨hz4, ht4, hf4⟩ := H
    refine hw_if (a0 := 0) (b := 0) (e := 30) (by decide +kernel) hz4 (fun q => ?_) (fun q => ?_)
    · have H := ht4 q
      refine hw_k (c := (-1 : Int)) (b := 0) (e := 1) (by decide +kernel) ?_
      exact hw_ret (a0 := 0) (e := 0) (by decide +kernel) (Or.inl rfl) H
    · have H := hf4 q
      refine hw_ald (b := 0) (e := 0) (by decide +kernel) rfl (by decide) ?_
      refine hr_gr (w := 202) (b := 12) (e := 31) 192 rfl (by decide +kernel) ?_
      refine hw_ld (b := 1) (e := 0) (by decide +kernel) rfl ?_
      obtain ⟨hl6, hu6, H⟩ := H
      refine hr_al (b := 0) (a0 := 0) (e := 0) (n := 4) (w := φ 202 ((v1).toNat)) 202 rfl (by decide +kernel) (by decide) hl6 hu6 (hf_up_ne (fun q => absurd q.1 (by decide))) ?_
      refine hw_goto (a0 := 0) (b := 0) (e := 31) (by decide +kernel) ?_
      exact hw_ret (a0 := 0) (e := 0) (by decide +kernel) (Or.inl rfl) H
theorem sf_262_192 {sc : List Int} {d : Nat} {φ : hf_F} {x : Nat} {Q : Option jm_V → hf_F → Nat → Prop} {v1 : Int} (hI : Inv φ) (h1a : (-2147483648 : Int) ≤ v1) (h1b : v1 ≤ 2147483647) (hQ : ∀ (r : Int) (ψ : hf_F), Inv ψ → Fr [193000] φ ψ → True → F_RideLawsModel_told_192 φ v1 = (r, ψ) → Q (some (0, r)) ψ x) : hw sc (d + 1) 262 0 [(0, (2, 192)), (1, (0, v1))] [] φ x Q := by
  apply sf_262_192_v
  have e0 : F_RideLawsModel_told_192 φ v1 = _ := rfl
  have i1 : Inv (hf_up φ 192 0 0) := iv_up (lo := 0) (u := 1) hI (by decide +kernel) (by omega) (by omega)
  have r1 : Fr [193000] φ (hf_up φ 192 0 0) := fr_up (fr_rf) (by decide)
  have f2 := iv_at (a := 192) (k := 32) (lo := 0) (u := 1) hI (by decide +kernel)
  refine ⟨by unfold hi; omega, fun q1 => ?_, fun q1 => ?_⟩
  · skip
    have e1a := e0.trans (if_pos q1)
    exact hQ (-1 : Int) (hf_up φ 192 0 0) i1 r1 trivial e1a
  · skip
    have e1b := e0.trans (if_neg q1)
    refine sf_188 (φ := (hf_up φ 192 0 0)) i1 (by omega) (by omega) (by omega) (by omega) (by omega) (by omega) (fun z3 hp3 hE3 => ⟨rfl, rfl, z3, rfl, ?_⟩)
    have e3 := e1b.trans (bnp_e hE3)
    refine ⟨by unfold hi; omega, fun q4 => ?_, fun q4 => ?_⟩
    · skip
      have e4a := e3.trans (if_pos q4)
      exact hQ (-1 : Int) (hf_up φ 192 0 0) i1 r1 trivial e4a
    · skip
      have e4b := e3.trans (if_neg q4)
      refine ⟨by omega, by omega, ?_⟩
      exact hQ (φ 202 ((v1).toNat)) (hf_up φ 192 0 0) i1 r1 trivial e4b
theorem sf_246_192_v {sc : List Int} {d : Nat} {φ : hf_F} {x : Nat} {Q : Option jm_V → hf_F → Nat → Prop} 
    (H : hi (φ 192 26) ∧ ((φ 192 26) = 0 → Q (some (0, (-1 : Int))) (hf_up φ 192 0 0) x) ∧ (¬ (φ 192 26) = 0 → Q (some (0, φ 192 25)) (hf_up φ 192 0 0) x)) :
    hw sc d 246 0 [(0, (2, 192))] [] φ x Q := by
  refine hw_ald (b := 0) (e := 0) (by decide +kernel) rfl (by decide) ?_
  refine hw_k (c := 0) (b := 0) (e := 1) (by decide +kernel) ?_
  refine hr_pi (b := 12) (e := 0) 192 rfl (by decide +kernel) ?_
  refine hw_ald (b := 0) (e := 0) (by decide +kernel) rfl (by decide) ?_
  refine hr_gz (w := φ 192 26) (b := 12) (e := 26) 192 rfl (by decide +kernel) (hf_up_ne (fun q => absurd q.2 (by decide))) ?_
  obtain ⟨hz1, ht1, hf1⟩ := H
  refine hw_if (a0 := 0) (b := 0) (e := 19) (by decide +kernel) hz1 (fun q => ?_) (fun q => ?_)
  · have H := ht1 q
    refine hw_k (c := (-1 : Int)) (b := 0) (e := 1) (by decide +kernel) ?_
    exact hw_ret (a0 := 0) (e := 0) (by decide +kernel) (Or.inl rfl) H
  · have H := hf1 q
    refine hw_ald (b := 0) (e := 0) (by decide +kernel) rfl (by decide) ?_
    refine hr_gi (w := φ 192 25) (b := 12) (e := 25) 192 rfl (by decide +kernel) (hf_up_ne (fun q => absurd q.2 (by decide))) ?_
    refine hw_goto (a0 := 0) (b := 0) (e := 20) (by decide +kernel) ?_
    exact hw_ret (a0 := 0) (e := 0) (by decide +kernel) (Or.inl rfl) H
theorem sf_246_192 {sc : List Int} {d : Nat} {φ : hf_F} {x : Nat} {Q : Option jm_V → hf_F → Nat → Prop}  (hI : Inv φ)  (hQ : ∀ (r : Int) (ψ : hf_F), Inv ψ → Fr [193000] φ ψ → True → F_RideLawsModel_standing_192 φ = (r, ψ) → Q (some (0, r)) ψ x) : hw sc d 246 0 [(0, (2, 192))] [] φ x Q := by
  apply sf_246_192_v
  have e0 : F_RideLawsModel_standing_192 φ = _ := rfl
  have i1 : Inv (hf_up φ 192 0 0) := iv_up (lo := 0) (u := 1) hI (by decide +kernel) (by omega) (by omega)
  have r1 : Fr [193000] φ (hf_up φ 192 0 0) := fr_up (fr_rf) (by decide)
  have f2 := iv_at (a := 192) (k := 26) (lo := 0) (u := 1) hI (by decide +kernel)
  refine ⟨by unfold hi; omega, fun q1 => ?_, fun q1 => ?_⟩
  · skip
    have e1a := e0.trans (if_pos q1)
    exact hQ (-1 : Int) (hf_up φ 192 0 0) i1 r1 trivial e1a
  · skip
    have e1b := e0.trans (if_neg q1)
    have f3 := iv_at (a := 192) (k := 25) (lo := (-2147483648 : Int)) (u := 2147483647) hI (by decide +kernel)
    exact hQ (φ 192 25) (hf_up φ 192 0 0) i1 r1 trivial e1b
theorem sf_253_192_v {sc : List Int} {d : Nat} {φ : hf_F} {x : Nat} {Q : Option jm_V → hf_F → Nat → Prop} {v1 : Int}
    (H : hw sc d 188 0 [(0, (0, v1)), (1, (0, 0)), (2, (0, (φ 192 28) - 1))] [] (hf_up φ 192 0 0) x (fun r ψ1 y1 => y1 = x ∧ (hf_up φ 192 0 0) = ψ1 ∧ (∃ z1 : Int, r = some (0, z1) ∧ (hi z1 ∧ (z1 = 0 → Q (some (0, (-1 : Int))) (hf_up φ 192 0 0) x) ∧ (¬ z1 = 0 → 0 ≤ v1 ∧ v1 < 48 ∧ (Q (some (0, φ 201 ((v1).toNat))) (hf_up φ 192 0 0) x)))))) :
    hw sc (d + 1) 253 0 [(0, (2, 192)), (1, (0, v1))] [] φ x Q := by
  refine hw_ald (b := 0) (e := 0) (by decide +kernel) rfl (by decide) ?_
  refine hw_k (c := 0) (b := 0) (e := 1) (by decide +kernel) ?_
  refine hr_pi (b := 12) (e := 0) 192 rfl (by decide +kernel) ?_
  refine hw_ld (b := 1) (e := 0) (by decide +kernel) rfl ?_
  refine hw_k (c := 0) (b := 0) (e := 1) (by decide +kernel) ?_
  refine hw_ald (b := 0) (e := 0) (by decide +kernel) rfl (by decide) ?_
  refine hr_gi (w := φ 192 28) (b := 12) (e := 28) 192 rfl (by decide +kernel) (hf_up_ne (fun q => absurd q.2 (by decide))) ?_
  refine hw_k (c := 1) (b := 0) (e := 1) (by decide +kernel) ?_
  refine hw_bin (w := (φ 192 28) - 1) (a0 := 0) (b := 1) (e := 0) (by decide +kernel) rfl ?_
  refine hr_calls (b := 188) (e := 3) (nl := 3) (As := [(0, v1), (0, 0), (0, (φ 192 28) - 1)]) (R := []) (by decide +kernel) rfl rfl (Nat.le_of_ble_eq_true rfl) (Nat.le_of_ble_eq_true rfl) ?_
  refine hw_mono H ?_
  rintro r ψ1 y1 ⟨hyx, hψx, z1, hr, H⟩
  subst hyx
  subst hψx
  subst hr
  refine ⟨hne0, ?_⟩
  show hw sc (d + 1) 253 16 [(0, (2, 192)), (1, (0, v1))] [(0, z1)] (hf_up φ 192 0 0) y1 Q
  obtain ⟨hz2, ht2, hf2⟩ := H
  refine hw_if (a0 := 0) (b := 0) (e := 28) (by decide +kernel) hz2 (fun q => ?_) (fun q => ?_)
  · have H := ht2 q
    refine hw_k (c := (-1 : Int)) (b := 0) (e := 1) (by decide +kernel) ?_
    exact hw_ret (a0 := 0) (e := 0) (by decide +kernel) (Or.inl rfl) H
  · have H := hf2 q
    refine hw_ald (b := 0) (e := 0) (by decide +kernel) rfl (by decide) ?_
    refine hr_gr (w := 201) (b := 12) (e := 27) 192 rfl (by decide +kernel) ?_
    refine hw_ld (b := 1) (e := 0) (by decide +kernel) rfl ?_
    obtain ⟨hl4, hu4, H⟩ := H
    refine hr_al (b := 1) (a0 := 0) (e := 0) (n := 48) (w := φ 201 ((v1).toNat)) 201 rfl (by decide +kernel) (by decide) hl4 hu4 (hf_up_ne (fun q => absurd q.1 (by decide))) ?_
    refine hw_goto (a0 := 0) (b := 0) (e := 29) (by decide +kernel) ?_
    exact hw_ret (a0 := 0) (e := 0) (by decide +kernel) (Or.inl rfl) H
theorem sf_253_192 {sc : List Int} {d : Nat} {φ : hf_F} {x : Nat} {Q : Option jm_V → hf_F → Nat → Prop} {v1 : Int} (hI : Inv φ) (h1a : (-2147483648 : Int) ≤ v1) (h1b : v1 ≤ 2147483647) (hQ : ∀ (r : Int) (ψ : hf_F), Inv ψ → Fr [193000] φ ψ → True → F_RideLawsModel_byteAt_192 φ v1 = (r, ψ) → Q (some (0, r)) ψ x) : hw sc (d + 1) 253 0 [(0, (2, 192)), (1, (0, v1))] [] φ x Q := by
  apply sf_253_192_v
  have e0 : F_RideLawsModel_byteAt_192 φ v1 = _ := rfl
  have i1 : Inv (hf_up φ 192 0 0) := iv_up (lo := 0) (u := 1) hI (by decide +kernel) (by omega) (by omega)
  have r1 : Fr [193000] φ (hf_up φ 192 0 0) := fr_up (fr_rf) (by decide)
  have f2 := iv_at (a := 192) (k := 28) (lo := 0) (u := 48) hI (by decide +kernel)
  refine sf_188 (φ := (hf_up φ 192 0 0)) i1 (by omega) (by omega) (by omega) (by omega) (by omega) (by omega) (fun z1 hp1 hE1 => ⟨rfl, rfl, z1, rfl, ?_⟩)
  have e1 := e0.trans (bnp_e hE1)
  have f3 : (hf_up φ 192 0 0) 192 28 = φ 192 28 := (hf_up_ne (fun q => absurd q.2 (by decide)))
  refine ⟨by unfold hi; omega, fun q2 => ?_, fun q2 => ?_⟩
  · skip
    have e2a := e1.trans (if_pos q2)
    exact hQ (-1 : Int) (hf_up φ 192 0 0) i1 r1 trivial e2a
  · skip
    have e2b := e1.trans (if_neg q2)
    refine ⟨by omega, by omega, ?_⟩
    have f4 := iv_ar (a := 201) (s := 0) (t := 48) (lo := (-128 : Int)) (u := 127) (z := v1) hI (by decide +kernel) (by omega) (by omega)
    exact hQ (φ 201 ((v1).toNat)) (hf_up φ 192 0 0) i1 r1 trivial e2b
theorem sf_237_192_v {sc : List Int} {d : Nat} {φ : hf_F} {x : Nat} {Q : Option jm_V → hf_F → Nat → Prop} 
    (H : hi (φ 192 24) ∧ ((φ 192 24) = 0 → Q (some (0, (-1 : Int))) (hf_up φ 192 0 0) x) ∧ (¬ (φ 192 24) = 0 → Q (some (0, φ 192 23)) (hf_up φ 192 0 0) x)) :
    hw sc d 237 0 [(0, (2, 192))] [] φ x Q := by
  refine hw_ald (b := 0) (e := 0) (by decide +kernel) rfl (by decide) ?_
  refine hw_k (c := 0) (b := 0) (e := 1) (by decide +kernel) ?_
  refine hr_pi (b := 12) (e := 0) 192 rfl (by decide +kernel) ?_
  refine hw_ald (b := 0) (e := 0) (by decide +kernel) rfl (by decide) ?_
  refine hr_gz (w := φ 192 24) (b := 12) (e := 24) 192 rfl (by decide +kernel) (hf_up_ne (fun q => absurd q.2 (by decide))) ?_
  obtain ⟨hz1, ht1, hf1⟩ := H
  refine hw_if (a0 := 0) (b := 0) (e := 19) (by decide +kernel) hz1 (fun q => ?_) (fun q => ?_)
  · have H := ht1 q
    refine hw_k (c := (-1 : Int)) (b := 0) (e := 1) (by decide +kernel) ?_
    exact hw_ret (a0 := 0) (e := 0) (by decide +kernel) (Or.inl rfl) H
  · have H := hf1 q
    refine hw_ald (b := 0) (e := 0) (by decide +kernel) rfl (by decide) ?_
    refine hr_gi (w := φ 192 23) (b := 12) (e := 23) 192 rfl (by decide +kernel) (hf_up_ne (fun q => absurd q.2 (by decide))) ?_
    refine hw_goto (a0 := 0) (b := 0) (e := 20) (by decide +kernel) ?_
    exact hw_ret (a0 := 0) (e := 0) (by decide +kernel) (Or.inl rfl) H
theorem sf_237_192 {sc : List Int} {d : Nat} {φ : hf_F} {x : Nat} {Q : Option jm_V → hf_F → Nat → Prop}  (hI : Inv φ)  (hQ : ∀ (r : Int) (ψ : hf_F), Inv ψ → Fr [193000] φ ψ → True → F_RideLawsModel_aimSeat_192 φ = (r, ψ) → Q (some (0, r)) ψ x) : hw sc d 237 0 [(0, (2, 192))] [] φ x Q := by
  apply sf_237_192_v
  have e0 : F_RideLawsModel_aimSeat_192 φ = _ := rfl
  have i1 : Inv (hf_up φ 192 0 0) := iv_up (lo := 0) (u := 1) hI (by decide +kernel) (by omega) (by omega)
  have r1 : Fr [193000] φ (hf_up φ 192 0 0) := fr_up (fr_rf) (by decide)
  have f2 := iv_at (a := 192) (k := 24) (lo := 0) (u := 1) hI (by decide +kernel)
  refine ⟨by unfold hi; omega, fun q1 => ?_, fun q1 => ?_⟩
  · skip
    have e1a := e0.trans (if_pos q1)
    exact hQ (-1 : Int) (hf_up φ 192 0 0) i1 r1 trivial e1a
  · skip
    have e1b := e0.trans (if_neg q1)
    have f3 := iv_at (a := 192) (k := 23) (lo := 0) (u := 7) hI (by decide +kernel)
    exact hQ (φ 192 23) (hf_up φ 192 0 0) i1 r1 trivial e1b
theorem sf_174_192_v {sc : List Int} {d : Nat} {φ : hf_F} {x : Nat} {Q : Option jm_V → hf_F → Nat → Prop} {v1 : Int}
    (H : Q none (hf_up (hf_up (hf_up (hf_up φ 192 3 (φ 192 2)) 192 2 0) 192 4 0) 192 5 v1) x) :
    hw sc d 174 0 [(0, (2, 192)), (1, (0, v1))] [] φ x Q := by
  refine hw_ald (b := 0) (e := 0) (by decide +kernel) rfl (by decide) ?_
  refine hw_ald (b := 0) (e := 0) (by decide +kernel) rfl (by decide) ?_
  refine hr_gi (w := φ 192 2) (b := 12) (e := 2) 192 rfl (by decide +kernel) rfl ?_
  refine hr_pi (b := 12) (e := 3) 192 rfl (by decide +kernel) ?_
  refine hw_ald (b := 0) (e := 0) (by decide +kernel) rfl (by decide) ?_
  refine hw_k (c := 0) (b := 0) (e := 1) (by decide +kernel) ?_
  refine hr_pi (b := 12) (e := 2) 192 rfl (by decide +kernel) ?_
  refine hw_ald (b := 0) (e := 0) (by decide +kernel) rfl (by decide) ?_
  refine hw_k (c := 0) (b := 0) (e := 1) (by decide +kernel) ?_
  refine hr_pi (b := 12) (e := 4) 192 rfl (by decide +kernel) ?_
  refine hw_ald (b := 0) (e := 0) (by decide +kernel) rfl (by decide) ?_
  refine hw_ld (b := 1) (e := 0) (by decide +kernel) rfl ?_
  refine hr_pi (b := 12) (e := 5) 192 rfl (by decide +kernel) ?_
  exact hw_vret (a0 := 0) (e := 0) (by decide +kernel) H
theorem sf_174_192 {sc : List Int} {d : Nat} {φ : hf_F} {x : Nat} {Q : Option jm_V → hf_F → Nat → Prop} {v1 : Int} (hI : Inv φ) (h1a : 0 ≤ v1) (h1b : v1 ≤ 940) (hQ : ∀ ψ : hf_F, Inv ψ → Fr [193002, 193003, 193004, 193005] φ ψ → (ψ 192 2 = 0) → F_RideLawsModel_taken_192 φ v1 = ψ → Q none ψ x) : hw sc d 174 0 [(0, (2, 192)), (1, (0, v1))] [] φ x Q := by
  apply sf_174_192_v
  have e0 : F_RideLawsModel_taken_192 φ v1 = _ := rfl
  have f1 := iv_at (a := 192) (k := 2) (lo := 0) (u := 940) hI (by decide +kernel)
  have i2 : Inv (hf_up φ 192 3 (φ 192 2)) := iv_up (lo := 0) (u := 940) hI (by decide +kernel) (by omega) (by omega)
  have r2 : Fr [193002, 193003, 193004, 193005] φ (hf_up φ 192 3 (φ 192 2)) := fr_up (fr_rf) (by decide)
  have i3 : Inv (hf_up (hf_up φ 192 3 (φ 192 2)) 192 2 0) := iv_up (lo := 0) (u := 940) i2 (by decide +kernel) (by omega) (by omega)
  have r3 : Fr [193002, 193003, 193004, 193005] φ (hf_up (hf_up φ 192 3 (φ 192 2)) 192 2 0) := fr_up r2 (by decide)
  have i4 : Inv (hf_up (hf_up (hf_up φ 192 3 (φ 192 2)) 192 2 0) 192 4 0) := iv_up (lo := 0) (u := 940) i3 (by decide +kernel) (by omega) (by omega)
  have r4 : Fr [193002, 193003, 193004, 193005] φ (hf_up (hf_up (hf_up φ 192 3 (φ 192 2)) 192 2 0) 192 4 0) := fr_up r3 (by decide)
  have i5 : Inv (hf_up (hf_up (hf_up (hf_up φ 192 3 (φ 192 2)) 192 2 0) 192 4 0) 192 5 v1) := iv_up (lo := 0) (u := 940) i4 (by decide +kernel) (by omega) (by omega)
  have r5 : Fr [193002, 193003, 193004, 193005] φ (hf_up (hf_up (hf_up (hf_up φ 192 3 (φ 192 2)) 192 2 0) 192 4 0) 192 5 v1) := fr_up r4 (by decide)
  have f6 : (hf_up (hf_up (hf_up (hf_up φ 192 3 (φ 192 2)) 192 2 0) 192 4 0) 192 5 v1) 192 2 = 0 := ((hf_up_ne (fun q => absurd q.2 (by decide))).trans ((hf_up_ne (fun q => absurd q.2 (by decide))).trans hf_up_eq))
  exact hQ (hf_up (hf_up (hf_up (hf_up φ 192 3 (φ 192 2)) 192 2 0) 192 4 0) 192 5 v1) i5 r5 (by omega) e0
theorem sf_176_192_v {sc : List Int} {d : Nat} {φ : hf_F} {x : Nat} {Q : Option jm_V → hf_F → Nat → Prop} 
    (H : hi (φ 192 4) ∧ hi (φ 192 3) ∧ ((φ 192 3) ≤ (φ 192 4) → Q (some (0, (-1 : Int))) φ x) ∧ (¬ (φ 192 3) ≤ (φ 192 4) → 0 ≤ (φ 192 4) ∧ (φ 192 4) < 940 ∧ (Q (some (0, hb_and (φ 193 ((φ 192 4).toNat)) 255)) φ x))) :
    hw sc d 176 0 [(0, (2, 192))] [] φ x Q := by
  refine hw_ald (b := 0) (e := 0) (by decide +kernel) rfl (by decide) ?_
  refine hr_gi (w := φ 192 4) (b := 12) (e := 4) 192 rfl (by decide +kernel) rfl ?_
  refine hw_ald (b := 0) (e := 0) (by decide +kernel) rfl (by decide) ?_
  refine hr_gi (w := φ 192 3) (b := 12) (e := 3) 192 rfl (by decide +kernel) rfl ?_
  obtain ⟨hz1, hy1, ht1, hf1⟩ := H
  refine hw_if2 (a0 := 0) (b := 3) (e := 27) (by decide +kernel) hz1 hy1 (fun q => ?_) (fun q => ?_)
  · have H := ht1 q
    refine hw_k (c := (-1 : Int)) (b := 0) (e := 1) (by decide +kernel) ?_
    exact hw_ret (a0 := 0) (e := 0) (by decide +kernel) (Or.inl rfl) H
  · have H := hf1 q
    refine hw_ald (b := 0) (e := 0) (by decide +kernel) rfl (by decide) ?_
    refine hr_gr (w := 193) (b := 12) (e := 1) 192 rfl (by decide +kernel) ?_
    refine hw_ald (b := 0) (e := 0) (by decide +kernel) rfl (by decide) ?_
    refine hr_gi (w := φ 192 4) (b := 12) (e := 4) 192 rfl (by decide +kernel) rfl ?_
    obtain ⟨hl3, hu3, H⟩ := H
    refine hr_al (b := 1) (a0 := 0) (e := 0) (n := 940) (w := φ 193 ((φ 192 4).toNat)) 193 rfl (by decide +kernel) (by decide) hl3 hu3 rfl ?_
    refine hw_k (c := 255) (b := 2) (e := 3) (by decide +kernel) ?_
    refine hw_bin (w := hb_and (φ 193 ((φ 192 4).toNat)) 255) (a0 := 0) (b := 3) (e := 0) (by decide +kernel) rfl ?_
    refine hw_goto (a0 := 0) (b := 0) (e := 28) (by decide +kernel) ?_
    exact hw_ret (a0 := 0) (e := 0) (by decide +kernel) (Or.inl rfl) H
theorem sf_176_192 {sc : List Int} {d : Nat} {φ : hf_F} {x : Nat} {Q : Option jm_V → hf_F → Nat → Prop}  (hI : Inv φ)  (hQ : ∀ (r : Int), (-1 : Int) ≤ r ∧ r ≤ 255 ∧ r = pk φ → F_RideLawsModel_peek_192 φ = r → Q (some (0, r)) φ x) : hw sc d 176 0 [(0, (2, 192))] [] φ x Q := by
  apply sf_176_192_v
  have e0 : F_RideLawsModel_peek_192 φ = _ := rfl
  have f1 := iv_at (a := 192) (k := 4) (lo := 0) (u := 940) hI (by decide +kernel)
  have f2 := iv_at (a := 192) (k := 3) (lo := 0) (u := 940) hI (by decide +kernel)
  refine ⟨by unfold hi; omega, by unfold hi; omega, fun q1 => ?_, fun q1 => ?_⟩
  · skip
    have e1a := e0.trans (if_pos q1)
    exact hQ (-1 : Int) ⟨by omega, by omega, by first | exact pk_t (by omega) | exact pk_f (by omega)⟩ e1a
  · skip
    have e1b := e0.trans (if_neg q1)
    refine ⟨by omega, by omega, ?_⟩
    have f3 := iv_ar (a := 193) (s := 0) (t := 940) (lo := (-128 : Int)) (u := 127) (z := φ 192 4) hI (by decide +kernel) (by omega) (by omega)
    have f4 := hr_and0 (φ 193 ((φ 192 4).toNat)) 255
    have f5 := hr_and255 (φ 193 ((φ 192 4).toNat))
    have f6 := hr_and (φ 193 ((φ 192 4).toNat)) 255
    exact hQ (hb_and (φ 193 ((φ 192 4).toNat)) 255) ⟨by omega, by omega, by first | exact pk_t (by omega) | exact pk_f (by omega)⟩ e1b
theorem sf_177_v {sc : List Int} {d : Nat} {φ : hf_F} {x : Nat} {Q : Option jm_V → hf_F → Nat → Prop} {v0 : Int}
    (H : hi v0 ∧ hi 97 ∧ (v0 < 97 → Q (some (0, 0)) φ x) ∧ (¬ v0 < 97 → hi v0 ∧ hi 122 ∧ (122 < v0 → Q (some (0, 0)) φ x) ∧ (¬ 122 < v0 → Q (some (0, 1)) φ x))) :
    hw sc d 177 0 [(0, (0, v0))] [] φ x Q := by
  refine hw_ld (b := 0) (e := 0) (by decide +kernel) rfl ?_
  refine hw_k (c := 97) (b := 1) (e := 2) (by decide +kernel) ?_
  obtain ⟨hz1, hy1, ht1, hf1⟩ := H
  refine hw_if2 (a0 := 0) (b := 2) (e := 16) (by decide +kernel) hz1 hy1 (fun q => ?_) (fun q => ?_)
  · have H := ht1 q
    refine hw_k (c := 0) (b := 0) (e := 1) (by decide +kernel) ?_
    exact hw_ret (a0 := 0) (e := 1) (by decide +kernel) (Or.inr ⟨rfl, by decide⟩) H
  · have H := hf1 q
    refine hw_ld (b := 0) (e := 0) (by decide +kernel) rfl ?_
    refine hw_k (c := 122) (b := 1) (e := 2) (by decide +kernel) ?_
    obtain ⟨hz3, hy3, ht3, hf3⟩ := H
    refine hw_if2 (a0 := 0) (b := 4) (e := 16) (by decide +kernel) hz3 hy3 (fun q => ?_) (fun q => ?_)
    · have H := ht3 q
      refine hw_k (c := 0) (b := 0) (e := 1) (by decide +kernel) ?_
      exact hw_ret (a0 := 0) (e := 1) (by decide +kernel) (Or.inr ⟨rfl, by decide⟩) H
    · have H := hf3 q
      refine hw_k (c := 1) (b := 0) (e := 1) (by decide +kernel) ?_
      refine hw_goto (a0 := 0) (b := 0) (e := 17) (by decide +kernel) ?_
      exact hw_ret (a0 := 0) (e := 1) (by decide +kernel) (Or.inr ⟨rfl, by decide⟩) H
theorem sf_177 {sc : List Int} {d : Nat} {φ : hf_F} {x : Nat} {Q : Option jm_V → hf_F → Nat → Prop} {v0 : Int} (hI : Inv φ) (h0a : (-1 : Int) ≤ v0) (h0b : v0 ≤ 255) (hQ : ∀ (r : Int), 0 ≤ r ∧ r ≤ 1 ∧ (r = 1 → 97 ≤ v0 ∧ v0 ≤ 122) → F_RideLawsModel_isSmall φ v0 = r → Q (some (0, r)) φ x) : hw sc d 177 0 [(0, (0, v0))] [] φ x Q := by
  apply sf_177_v
  have e0 : F_RideLawsModel_isSmall φ v0 = _ := rfl
  refine ⟨by unfold hi; omega, by unfold hi; omega, fun q1 => ?_, fun q1 => ?_⟩
  · skip
    have e1a := e0.trans (if_pos q1)
    exact hQ 0 ⟨by omega, by omega, by omega⟩ e1a
  · skip
    have e1b := e0.trans (if_neg q1)
    refine ⟨by unfold hi; omega, by unfold hi; omega, fun q3 => ?_, fun q3 => ?_⟩
    · skip
      have e3a := e1b.trans (if_pos q3)
      exact hQ 0 ⟨by omega, by omega, by omega⟩ e3a
    · skip
      have e3b := e1b.trans (if_neg q3)
      exact hQ 1 ⟨by omega, by omega, by omega⟩ e3b
theorem sf_178_v {sc : List Int} {d : Nat} {φ : hf_F} {x : Nat} {Q : Option jm_V → hf_F → Nat → Prop} {v0 : Int}
    (H : hi v0 ∧ hi 48 ∧ (v0 < 48 → Q (some (0, 0)) φ x) ∧ (¬ v0 < 48 → hi v0 ∧ hi 57 ∧ (57 < v0 → Q (some (0, 0)) φ x) ∧ (¬ 57 < v0 → Q (some (0, 1)) φ x))) :
    hw sc d 178 0 [(0, (0, v0))] [] φ x Q := by
  refine hw_ld (b := 0) (e := 0) (by decide +kernel) rfl ?_
  refine hw_k (c := 48) (b := 1) (e := 2) (by decide +kernel) ?_
  obtain ⟨hz1, hy1, ht1, hf1⟩ := H
  refine hw_if2 (a0 := 0) (b := 2) (e := 16) (by decide +kernel) hz1 hy1 (fun q => ?_) (fun q => ?_)
  · have H := ht1 q
    refine hw_k (c := 0) (b := 0) (e := 1) (by decide +kernel) ?_
    exact hw_ret (a0 := 0) (e := 1) (by decide +kernel) (Or.inr ⟨rfl, by decide⟩) H
  · have H := hf1 q
    refine hw_ld (b := 0) (e := 0) (by decide +kernel) rfl ?_
    refine hw_k (c := 57) (b := 1) (e := 2) (by decide +kernel) ?_
    obtain ⟨hz3, hy3, ht3, hf3⟩ := H
    refine hw_if2 (a0 := 0) (b := 4) (e := 16) (by decide +kernel) hz3 hy3 (fun q => ?_) (fun q => ?_)
    · have H := ht3 q
      refine hw_k (c := 0) (b := 0) (e := 1) (by decide +kernel) ?_
      exact hw_ret (a0 := 0) (e := 1) (by decide +kernel) (Or.inr ⟨rfl, by decide⟩) H
    · have H := hf3 q
      refine hw_k (c := 1) (b := 0) (e := 1) (by decide +kernel) ?_
      refine hw_goto (a0 := 0) (b := 0) (e := 17) (by decide +kernel) ?_
      exact hw_ret (a0 := 0) (e := 1) (by decide +kernel) (Or.inr ⟨rfl, by decide⟩) H
theorem sf_178 {sc : List Int} {d : Nat} {φ : hf_F} {x : Nat} {Q : Option jm_V → hf_F → Nat → Prop} {v0 : Int} (hI : Inv φ) (h0a : (-1 : Int) ≤ v0) (h0b : v0 ≤ 255) (hQ : ∀ (r : Int), 0 ≤ r ∧ r ≤ 1 ∧ (r = 1 → 48 ≤ v0 ∧ v0 ≤ 57) → F_RideLawsModel_isDigit φ v0 = r → Q (some (0, r)) φ x) : hw sc d 178 0 [(0, (0, v0))] [] φ x Q := by
  apply sf_178_v
  have e0 : F_RideLawsModel_isDigit φ v0 = _ := rfl
  refine ⟨by unfold hi; omega, by unfold hi; omega, fun q1 => ?_, fun q1 => ?_⟩
  · skip
    have e1a := e0.trans (if_pos q1)
    exact hQ 0 ⟨by omega, by omega, by omega⟩ e1a
  · skip
    have e1b := e0.trans (if_neg q1)
    refine ⟨by unfold hi; omega, by unfold hi; omega, fun q3 => ?_, fun q3 => ?_⟩
    · skip
      have e3a := e1b.trans (if_pos q3)
      exact hQ 0 ⟨by omega, by omega, by omega⟩ e3a
    · skip
      have e3b := e1b.trans (if_neg q3)
      exact hQ 1 ⟨by omega, by omega, by omega⟩ e3b
theorem sf_182_192_v {sc : List Int} {d : Nat} {φ : hf_F} {x : Nat} {Q : Option jm_V → hf_F → Nat → Prop} {v1 : Int}
    (H : Q (some (0, 0)) (hf_up (hf_up φ 192 15 v1) 192 16 (φ 192 12)) x) :
    hw sc d 182 0 [(0, (2, 192)), (1, (0, v1))] [] φ x Q := by
  refine hw_ald (b := 0) (e := 0) (by decide +kernel) rfl (by decide) ?_
  refine hw_ld (b := 1) (e := 0) (by decide +kernel) rfl ?_
  refine hr_pi (b := 12) (e := 15) 192 rfl (by decide +kernel) ?_
  refine hw_ald (b := 0) (e := 0) (by decide +kernel) rfl (by decide) ?_
  refine hw_ald (b := 0) (e := 0) (by decide +kernel) rfl (by decide) ?_
  refine hr_gi (w := φ 192 12) (b := 12) (e := 12) 192 rfl (by decide +kernel) (hf_up_ne (fun q => absurd q.2 (by decide))) ?_
  refine hr_pi (b := 12) (e := 16) 192 rfl (by decide +kernel) ?_
  refine hw_k (c := 0) (b := 0) (e := 1) (by decide +kernel) ?_
  exact hw_ret (a0 := 0) (e := 1) (by decide +kernel) (Or.inr ⟨rfl, by decide⟩) H
theorem sf_182_192 {sc : List Int} {d : Nat} {φ : hf_F} {x : Nat} {Q : Option jm_V → hf_F → Nat → Prop} {v1 : Int} (hI : Inv φ) (h1a : 1 ≤ v1) (h1b : v1 ≤ 4) (hQ : ∀ (r : Int) (ψ : hf_F), Inv ψ → Fr [193015, 193016] φ ψ → 0 ≤ r ∧ r ≤ 1 ∧ ((r = 0 ∧ ψ 192 4 = φ 192 4) ∧ ψ 192 30 = φ 192 30) → F_RideLawsModel_bad_192 φ v1 = (r, ψ) → Q (some (0, r)) ψ x) : hw sc d 182 0 [(0, (2, 192)), (1, (0, v1))] [] φ x Q := by
  apply sf_182_192_v
  have e0 : F_RideLawsModel_bad_192 φ v1 = _ := rfl
  have i1 : Inv (hf_up φ 192 15 v1) := iv_up (lo := 0) (u := 4) hI (by decide +kernel) (by omega) (by omega)
  have r1 : Fr [193015, 193016] φ (hf_up φ 192 15 v1) := fr_up (fr_rf) (by decide)
  have f2 := iv_at (a := 192) (k := 12) (lo := 0) (u := 940) hI (by decide +kernel)
  have i3 : Inv (hf_up (hf_up φ 192 15 v1) 192 16 (φ 192 12)) := iv_up (lo := 0) (u := 940) i1 (by decide +kernel) (by omega) (by omega)
  have r3 : Fr [193015, 193016] φ (hf_up (hf_up φ 192 15 v1) 192 16 (φ 192 12)) := fr_up r1 (by decide)
  have f4 := iv_at (a := 192) (k := 30) (lo := 0) (u := 40) hI (by decide +kernel)
  have f5 := iv_at (a := 192) (k := 4) (lo := 0) (u := 940) hI (by decide +kernel)
  have f6 : (hf_up (hf_up φ 192 15 v1) 192 16 (φ 192 12)) 192 30 = φ 192 30 := ((hf_up_ne (fun q => absurd q.2 (by decide))).trans (hf_up_ne (fun q => absurd q.2 (by decide))))
  have f7 : (hf_up (hf_up φ 192 15 v1) 192 16 (φ 192 12)) 192 4 = φ 192 4 := ((hf_up_ne (fun q => absurd q.2 (by decide))).trans (hf_up_ne (fun q => absurd q.2 (by decide))))
  exact hQ 0 (hf_up (hf_up φ 192 15 v1) 192 16 (φ 192 12)) i3 r3 ⟨by omega, by omega, by omega⟩ e0
theorem sf_180_192_v {sc : List Int} {d : Nat} {φ : hf_F} {x : Nat} {Q : Option jm_V → hf_F → Nat → Prop} {v1 : Int}
    (H : hi (φ 192 11) ∧ hi 1 ∧ (¬ (φ 192 11) = 1 → Q (some (0, 0)) φ x) ∧ (¬ (¬ (φ 192 11) = 1) → hi (jm_cmp (φ 192 17) v1) ∧ (¬ (jm_cmp (φ 192 17) v1) = 0 → Q (some (0, 0)) φ x) ∧ (¬ (¬ (jm_cmp (φ 192 17) v1) = 0) → Q (some (0, 1)) φ x))) :
    hw sc d 180 0 [(0, (2, 192)), (1, (1, v1))] [] φ x Q := by
  refine hw_ald (b := 0) (e := 0) (by decide +kernel) rfl (by decide) ?_
  refine hr_gi (w := φ 192 11) (b := 12) (e := 11) 192 rfl (by decide +kernel) rfl ?_
  refine hw_k (c := 1) (b := 0) (e := 1) (by decide +kernel) ?_
  obtain ⟨hz1, hy1, ht1, hf1⟩ := H
  refine hw_if2 (a0 := 0) (b := 1) (e := 21) (by decide +kernel) hz1 hy1 (fun q => ?_) (fun q => ?_)
  · have H := ht1 q
    refine hw_k (c := 0) (b := 0) (e := 1) (by decide +kernel) ?_
    exact hw_ret (a0 := 0) (e := 1) (by decide +kernel) (Or.inr ⟨rfl, by decide⟩) H
  · have H := hf1 q
    refine hw_ald (b := 0) (e := 0) (by decide +kernel) rfl (by decide) ?_
    refine hr_gl (w := φ 192 17) (b := 12) (e := 17) 192 rfl (by decide +kernel) rfl ?_
    refine hw_lld (b := 1) (e := 0) (by decide +kernel) rfl ?_
    refine hw_lcmp (w := jm_cmp (φ 192 17) v1) (a0 := 0) (b := 0) (e := 0) (by decide +kernel) rfl ?_
    obtain ⟨hz3, ht3, hf3⟩ := H
    refine hw_if (a0 := 0) (b := 1) (e := 21) (by decide +kernel) hz3 (fun q => ?_) (fun q => ?_)
    · have H := ht3 q
      refine hw_k (c := 0) (b := 0) (e := 1) (by decide +kernel) ?_
      exact hw_ret (a0 := 0) (e := 1) (by decide +kernel) (Or.inr ⟨rfl, by decide⟩) H
    · have H := hf3 q
      refine hw_k (c := 1) (b := 0) (e := 1) (by decide +kernel) ?_
      refine hw_goto (a0 := 0) (b := 0) (e := 22) (by decide +kernel) ?_
      exact hw_ret (a0 := 0) (e := 1) (by decide +kernel) (Or.inr ⟨rfl, by decide⟩) H
theorem sf_180_192 {sc : List Int} {d : Nat} {φ : hf_F} {x : Nat} {Q : Option jm_V → hf_F → Nat → Prop} {v1 : Int} (hI : Inv φ)  (hQ : ∀ (r : Int), 0 ≤ r ∧ r ≤ 1 → F_RideLawsModel_isWord_192 φ v1 = r → Q (some (0, r)) φ x) : hw sc d 180 0 [(0, (2, 192)), (1, (1, v1))] [] φ x Q := by
  apply sf_180_192_v
  have e0 : F_RideLawsModel_isWord_192 φ v1 = _ := rfl
  have f1 := iv_at (a := 192) (k := 11) (lo := 0) (u := 4) hI (by decide +kernel)
  refine ⟨by unfold hi; omega, by unfold hi; omega, fun q1 => ?_, fun q1 => ?_⟩
  · skip
    have e1a := e0.trans (if_pos q1)
    exact hQ 0 ⟨by omega, by omega⟩ e1a
  · skip
    have e1b := e0.trans (if_neg q1)
    have f2 := hr_cmp (φ 192 17) v1
    refine ⟨by unfold hi; omega, fun q3 => ?_, fun q3 => ?_⟩
    · skip
      have e3a := e1b.trans (if_pos q3)
      exact hQ 0 ⟨by omega, by omega⟩ e3a
    · skip
      have e3b := e1b.trans (if_neg q3)
      exact hQ 1 ⟨by omega, by omega⟩ e3b
theorem sf_199_192_v {sc : List Int} {d : Nat} {φ : hf_F} {x : Nat} {Q : Option jm_V → hf_F → Nat → Prop} {v1 : Int}
    (H : hi (φ 192 11) ∧ hi 3 ∧ (¬ (φ 192 11) = 3 → Q (some (0, 0)) φ x) ∧ (¬ (¬ (φ 192 11) = 3) → hi (φ 192 14) ∧ hi v1 ∧ (¬ (φ 192 14) = v1 → Q (some (0, 0)) φ x) ∧ (¬ (¬ (φ 192 14) = v1) → Q (some (0, 1)) φ x))) :
    hw sc d 199 0 [(0, (2, 192)), (1, (0, v1))] [] φ x Q := by
  refine hw_ald (b := 0) (e := 0) (by decide +kernel) rfl (by decide) ?_
  refine hr_gi (w := φ 192 11) (b := 12) (e := 11) 192 rfl (by decide +kernel) rfl ?_
  refine hw_k (c := 3) (b := 0) (e := 1) (by decide +kernel) ?_
  obtain ⟨hz1, hy1, ht1, hf1⟩ := H
  refine hw_if2 (a0 := 0) (b := 1) (e := 20) (by decide +kernel) hz1 hy1 (fun q => ?_) (fun q => ?_)
  · have H := ht1 q
    refine hw_k (c := 0) (b := 0) (e := 1) (by decide +kernel) ?_
    exact hw_ret (a0 := 0) (e := 1) (by decide +kernel) (Or.inr ⟨rfl, by decide⟩) H
  · have H := hf1 q
    refine hw_ald (b := 0) (e := 0) (by decide +kernel) rfl (by decide) ?_
    refine hr_gi (w := φ 192 14) (b := 12) (e := 14) 192 rfl (by decide +kernel) rfl ?_
    refine hw_ld (b := 1) (e := 0) (by decide +kernel) rfl ?_
    obtain ⟨hz3, hy3, ht3, hf3⟩ := H
    refine hw_if2 (a0 := 0) (b := 1) (e := 20) (by decide +kernel) hz3 hy3 (fun q => ?_) (fun q => ?_)
    · have H := ht3 q
      refine hw_k (c := 0) (b := 0) (e := 1) (by decide +kernel) ?_
      exact hw_ret (a0 := 0) (e := 1) (by decide +kernel) (Or.inr ⟨rfl, by decide⟩) H
    · have H := hf3 q
      refine hw_k (c := 1) (b := 0) (e := 1) (by decide +kernel) ?_
      refine hw_goto (a0 := 0) (b := 0) (e := 21) (by decide +kernel) ?_
      exact hw_ret (a0 := 0) (e := 1) (by decide +kernel) (Or.inr ⟨rfl, by decide⟩) H
theorem sf_199_192 {sc : List Int} {d : Nat} {φ : hf_F} {x : Nat} {Q : Option jm_V → hf_F → Nat → Prop} {v1 : Int} (hI : Inv φ) (h1a : 0 ≤ v1) (h1b : v1 ≤ 255) (hQ : ∀ (r : Int), 0 ≤ r ∧ r ≤ 1 ∧ (r = 1 → φ 192 11 = 3) → F_RideLawsModel_isSign_192 φ v1 = r → Q (some (0, r)) φ x) : hw sc d 199 0 [(0, (2, 192)), (1, (0, v1))] [] φ x Q := by
  apply sf_199_192_v
  have e0 : F_RideLawsModel_isSign_192 φ v1 = _ := rfl
  have f1 := iv_at (a := 192) (k := 11) (lo := 0) (u := 4) hI (by decide +kernel)
  refine ⟨by unfold hi; omega, by unfold hi; omega, fun q1 => ?_, fun q1 => ?_⟩
  · skip
    have e1a := e0.trans (if_pos q1)
    exact hQ 0 ⟨by omega, by omega, by omega⟩ e1a
  · skip
    have e1b := e0.trans (if_neg q1)
    have f2 := iv_at (a := 192) (k := 14) (lo := 0) (u := 8214) hI (by decide +kernel)
    refine ⟨by unfold hi; omega, by unfold hi; omega, fun q3 => ?_, fun q3 => ?_⟩
    · skip
      have e3a := e1b.trans (if_pos q3)
      exact hQ 0 ⟨by omega, by omega, by omega⟩ e3a
    · skip
      have e3b := e1b.trans (if_neg q3)
      exact hQ 1 ⟨by omega, by omega, by omega⟩ e3b
theorem sf_202_192_v {sc : List Int} {d : Nat} {φ : hf_F} {x : Nat} {Q : Option jm_V → hf_F → Nat → Prop} {v1 : Int}
    (H : hw sc d 188 0 [(0, (0, v1)), (1, (0, 0)), (2, (0, (φ 194 3) - 1))] [] φ x (fun r ψ1 y1 => y1 = x ∧ φ = ψ1 ∧ (∃ z1 : Int, r = some (0, z1) ∧ ((z1 = 0 ∨ z1 = 1) ∧ Q (some (0, z1)) φ x)))) :
    hw sc (d + 1) 202 0 [(0, (2, 192)), (1, (0, v1))] [] φ x Q := by
  refine hw_ld (b := 1) (e := 0) (by decide +kernel) rfl ?_
  refine hw_k (c := 0) (b := 0) (e := 1) (by decide +kernel) ?_
  refine hw_ald (b := 0) (e := 0) (by decide +kernel) rfl (by decide) ?_
  refine hr_gr (w := 194) (b := 12) (e := 6) 192 rfl (by decide +kernel) ?_
  refine hw_k (c := 3) (b := 0) (e := 1) (by decide +kernel) ?_
  refine hr_al (b := 0) (a0 := 0) (e := 0) (n := 361) (w := φ 194 3) 194 rfl (by decide +kernel) (by decide) (by decide) (by decide) rfl ?_
  refine hw_k (c := 1) (b := 0) (e := 1) (by decide +kernel) ?_
  refine hw_bin (w := (φ 194 3) - 1) (a0 := 0) (b := 1) (e := 0) (by decide +kernel) rfl ?_
  refine hr_calls (b := 188) (e := 3) (nl := 3) (As := [(0, v1), (0, 0), (0, (φ 194 3) - 1)]) (R := []) (by decide +kernel) rfl rfl (Nat.le_of_ble_eq_true rfl) (Nat.le_of_ble_eq_true rfl) ?_
  refine hw_mono H ?_
  rintro r ψ1 y1 ⟨hyx, hψx, z1, hr, H⟩
  subst hyx
  subst hψx
  subst hr
  refine ⟨hne0, ?_⟩
  show hw sc (d + 1) 202 13 [(0, (2, 192)), (1, (0, v1))] [(0, z1)] φ y1 Q
  exact hw_ret (a0 := 0) (e := 1) (by decide +kernel) (Or.inr ⟨rfl, H.1⟩) H.2
theorem sf_202_192 {sc : List Int} {d : Nat} {φ : hf_F} {x : Nat} {Q : Option jm_V → hf_F → Nat → Prop} {v1 : Int} (hI : Inv φ) (h1a : (-2147483648 : Int) ≤ v1) (h1b : v1 ≤ 2147483647) (hQ : ∀ (r : Int), 0 ≤ r ∧ r ≤ 1 ∧ (r = 1 → 0 ≤ v1 ∧ v1 < φ 194 3 ∧ φ 194 3 ≤ 6) → F_RideLawsModel_isRider_192 φ v1 = r → Q (some (0, r)) φ x) : hw sc (d + 1) 202 0 [(0, (2, 192)), (1, (0, v1))] [] φ x Q := by
  apply sf_202_192_v
  have e0 : F_RideLawsModel_isRider_192 φ v1 = _ := rfl
  have f1 := iv_at (a := 194) (k := 3) (lo := 0) (u := 6) hI (by decide +kernel)
  refine sf_188 (φ := φ) hI (by omega) (by omega) (by omega) (by omega) (by omega) (by omega) (fun z1 hp1 hE1 => ⟨rfl, rfl, z1, rfl, ?_⟩)
  have e1 := e0.trans (bnp_e hE1)
  refine ⟨by omega, ?_⟩
  exact hQ z1 ⟨by omega, by omega, by omega⟩ e1
theorem sf_208_192_v {sc : List Int} {d : Nat} {φ : hf_F} {x : Nat} {Q : Option jm_V → hf_F → Nat → Prop} {v1 : Int}
    (H : hw sc d 188 0 [(0, (0, v1)), (1, (0, 0)), (2, (0, (φ 194 1) - 1))] [] φ x (fun r ψ1 y1 => y1 = x ∧ φ = ψ1 ∧ (∃ z1 : Int, r = some (0, z1) ∧ ((z1 = 0 ∨ z1 = 1) ∧ Q (some (0, z1)) φ x)))) :
    hw sc (d + 1) 208 0 [(0, (2, 192)), (1, (0, v1))] [] φ x Q := by
  refine hw_ld (b := 1) (e := 0) (by decide +kernel) rfl ?_
  refine hw_k (c := 0) (b := 0) (e := 1) (by decide +kernel) ?_
  refine hw_ald (b := 0) (e := 0) (by decide +kernel) rfl (by decide) ?_
  refine hr_gr (w := 194) (b := 12) (e := 6) 192 rfl (by decide +kernel) ?_
  refine hw_k (c := 1) (b := 0) (e := 1) (by decide +kernel) ?_
  refine hr_al (b := 0) (a0 := 0) (e := 0) (n := 361) (w := φ 194 1) 194 rfl (by decide +kernel) (by decide) (by decide) (by decide) rfl ?_
  refine hw_k (c := 1) (b := 0) (e := 1) (by decide +kernel) ?_
  refine hw_bin (w := (φ 194 1) - 1) (a0 := 0) (b := 1) (e := 0) (by decide +kernel) rfl ?_
  refine hr_calls (b := 188) (e := 3) (nl := 3) (As := [(0, v1), (0, 0), (0, (φ 194 1) - 1)]) (R := []) (by decide +kernel) rfl rfl (Nat.le_of_ble_eq_true rfl) (Nat.le_of_ble_eq_true rfl) ?_
  refine hw_mono H ?_
  rintro r ψ1 y1 ⟨hyx, hψx, z1, hr, H⟩
  subst hyx
  subst hψx
  subst hr
  refine ⟨hne0, ?_⟩
  show hw sc (d + 1) 208 13 [(0, (2, 192)), (1, (0, v1))] [(0, z1)] φ y1 Q
  exact hw_ret (a0 := 0) (e := 1) (by decide +kernel) (Or.inr ⟨rfl, H.1⟩) H.2
theorem sf_208_192 {sc : List Int} {d : Nat} {φ : hf_F} {x : Nat} {Q : Option jm_V → hf_F → Nat → Prop} {v1 : Int} (hI : Inv φ) (h1a : (-2147483648 : Int) ≤ v1) (h1b : v1 ≤ 2147483647) (hQ : ∀ (r : Int), 0 ≤ r ∧ r ≤ 1 ∧ (r = 1 → 0 ≤ v1 ∧ v1 < φ 194 1 ∧ φ 194 1 ≤ 8) → F_RideLawsModel_isSeat_192 φ v1 = r → Q (some (0, r)) φ x) : hw sc (d + 1) 208 0 [(0, (2, 192)), (1, (0, v1))] [] φ x Q := by
  apply sf_208_192_v
  have e0 : F_RideLawsModel_isSeat_192 φ v1 = _ := rfl
  have f1 := iv_at (a := 194) (k := 1) (lo := 0) (u := 8) hI (by decide +kernel)
  refine sf_188 (φ := φ) hI (by omega) (by omega) (by omega) (by omega) (by omega) (by omega) (fun z1 hp1 hE1 => ⟨rfl, rfl, z1, rfl, ?_⟩)
  have e1 := e0.trans (bnp_e hE1)
  refine ⟨by omega, ?_⟩
  exact hQ z1 ⟨by omega, by omega, by omega⟩ e1
theorem sf_211_192_v {sc : List Int} {d : Nat} {φ : hf_F} {x : Nat} {Q : Option jm_V → hf_F → Nat → Prop} {v1 : Int}
    (H : hw sc d 188 0 [(0, (0, v1)), (1, (0, 0)), (2, (0, (φ 194 4) - 1))] [] φ x (fun r ψ1 y1 => y1 = x ∧ φ = ψ1 ∧ (∃ z1 : Int, r = some (0, z1) ∧ ((z1 = 0 ∨ z1 = 1) ∧ Q (some (0, z1)) φ x)))) :
    hw sc (d + 1) 211 0 [(0, (2, 192)), (1, (0, v1))] [] φ x Q := by
  refine hw_ld (b := 1) (e := 0) (by decide +kernel) rfl ?_
  refine hw_k (c := 0) (b := 0) (e := 1) (by decide +kernel) ?_
  refine hw_ald (b := 0) (e := 0) (by decide +kernel) rfl (by decide) ?_
  refine hr_gr (w := 194) (b := 12) (e := 6) 192 rfl (by decide +kernel) ?_
  refine hw_k (c := 4) (b := 0) (e := 1) (by decide +kernel) ?_
  refine hr_al (b := 0) (a0 := 0) (e := 0) (n := 361) (w := φ 194 4) 194 rfl (by decide +kernel) (by decide) (by decide) (by decide) rfl ?_
  refine hw_k (c := 1) (b := 0) (e := 1) (by decide +kernel) ?_
  refine hw_bin (w := (φ 194 4) - 1) (a0 := 0) (b := 1) (e := 0) (by decide +kernel) rfl ?_
  refine hr_calls (b := 188) (e := 3) (nl := 3) (As := [(0, v1), (0, 0), (0, (φ 194 4) - 1)]) (R := []) (by decide +kernel) rfl rfl (Nat.le_of_ble_eq_true rfl) (Nat.le_of_ble_eq_true rfl) ?_
  refine hw_mono H ?_
  rintro r ψ1 y1 ⟨hyx, hψx, z1, hr, H⟩
  subst hyx
  subst hψx
  subst hr
  refine ⟨hne0, ?_⟩
  show hw sc (d + 1) 211 13 [(0, (2, 192)), (1, (0, v1))] [(0, z1)] φ y1 Q
  exact hw_ret (a0 := 0) (e := 1) (by decide +kernel) (Or.inr ⟨rfl, H.1⟩) H.2
theorem sf_211_192 {sc : List Int} {d : Nat} {φ : hf_F} {x : Nat} {Q : Option jm_V → hf_F → Nat → Prop} {v1 : Int} (hI : Inv φ) (h1a : (-2147483648 : Int) ≤ v1) (h1b : v1 ≤ 2147483647) (hQ : ∀ (r : Int), 0 ≤ r ∧ r ≤ 1 ∧ (r = 1 → 0 ≤ v1 ∧ v1 < φ 194 4 ∧ φ 194 4 ≤ 8) → F_RideLawsModel_isLaw_192 φ v1 = r → Q (some (0, r)) φ x) : hw sc (d + 1) 211 0 [(0, (2, 192)), (1, (0, v1))] [] φ x Q := by
  apply sf_211_192_v
  have e0 : F_RideLawsModel_isLaw_192 φ v1 = _ := rfl
  have f1 := iv_at (a := 194) (k := 4) (lo := 0) (u := 8) hI (by decide +kernel)
  refine sf_188 (φ := φ) hI (by omega) (by omega) (by omega) (by omega) (by omega) (by omega) (fun z1 hp1 hE1 => ⟨rfl, rfl, z1, rfl, ?_⟩)
  have e1 := e0.trans (bnp_e hE1)
  refine ⟨by omega, ?_⟩
  exact hQ z1 ⟨by omega, by omega, by omega⟩ e1
theorem sf_209_192_v2 {sc : List Int} {d : Nat} {φ : hf_F} {x : Nat} {Q : Option jm_V → hf_F → Nat → Prop} {L : jm_L} {l1 l2 : Int} (g0 : jm_get L 0 = some (2, 192)) (g1 : jm_get L 1 = some (0, l1)) (g2 : jm_get L 2 = some (0, l2))
    (H : hi l2 ∧ hi (φ 194 3) ∧ ((φ 194 3) ≤ l2 → Q (some (0, (-1 : Int))) φ x) ∧ (¬ (φ 194 3) ≤ l2 → 0 ≤ (112 + l2) ∧ (112 + l2) < 361 ∧ (hi (φ 194 ((112 + l2).toNat)) ∧ hi (l1 + 1) ∧ (¬ (φ 194 ((112 + l2).toNat)) = (l1 + 1) → hw sc d 209 2 (jm_st1 L 2 (0, l2 + 1)) [] φ x Q) ∧ (¬ (¬ (φ 194 ((112 + l2).toNat)) = (l1 + 1)) → Q (some (0, l2)) φ x)))) :
    hw sc d 209 2 L [] φ x Q := by
  refine hw_ld (b := 2) (e := 0) (by decide +kernel) g2 ?_
  refine hw_ald (b := 0) (e := 0) (by decide +kernel) g0 (by decide) ?_
  refine hr_gr (w := 194) (b := 12) (e := 6) 192 rfl (by decide +kernel) ?_
  refine hw_k (c := 3) (b := 0) (e := 1) (by decide +kernel) ?_
  refine hr_al (b := 0) (a0 := 0) (e := 0) (n := 361) (w := φ 194 3) 194 rfl (by decide +kernel) (by decide) (by decide) (by decide) rfl ?_
  obtain ⟨hz1, hy1, ht1, hf1⟩ := H
  refine hw_if2 (a0 := 0) (b := 3) (e := 35) (by decide +kernel) hz1 hy1 (fun q => ?_) (fun q => ?_)
  · have H := ht1 q
    refine hw_k (c := (-1 : Int)) (b := 0) (e := 1) (by decide +kernel) ?_
    exact hw_ret (a0 := 0) (e := 0) (by decide +kernel) (Or.inl rfl) H
  · have H := hf1 q
    refine hw_ald (b := 0) (e := 0) (by decide +kernel) g0 (by decide) ?_
    refine hr_gr (w := 194) (b := 12) (e := 6) 192 rfl (by decide +kernel) ?_
    refine hw_k (c := 112) (b := 1) (e := 2) (by decide +kernel) ?_
    refine hw_ld (b := 2) (e := 0) (by decide +kernel) g2 ?_
    refine hw_bin (w := 112 + l2) (a0 := 0) (b := 0) (e := 0) (by decide +kernel) rfl ?_
    obtain ⟨hl3, hu3, H⟩ := H
    refine hr_al (b := 0) (a0 := 0) (e := 0) (n := 361) (w := φ 194 ((112 + l2).toNat)) 194 rfl (by decide +kernel) (by decide) hl3 hu3 rfl ?_
    refine hw_ld (b := 1) (e := 0) (by decide +kernel) g1 ?_
    refine hw_k (c := 1) (b := 0) (e := 1) (by decide +kernel) ?_
    refine hw_bin (w := l1 + 1) (a0 := 0) (b := 0) (e := 0) (by decide +kernel) rfl ?_
    obtain ⟨hz4, hy4, ht4, hf4⟩ := H
    refine hw_if2 (a0 := 0) (b := 1) (e := 29) (by decide +kernel) hz4 hy4 (fun q => ?_) (fun q => ?_)
    · have H := ht4 q
      refine hw_inc (L' := (jm_st1 L 2 (0, l2 + 1))) (c := 1) (b := 2) (e := 0) (by decide +kernel) g2 rfl ?_
      refine hw_goto (a0 := 0) (b := 0) (e := 2) (by decide +kernel) ?_
      exact H
    · have H := hf4 q
      refine hw_ld (b := 2) (e := 0) (by decide +kernel) g2 ?_
      exact hw_ret (a0 := 0) (e := 0) (by decide +kernel) (Or.inl rfl) H
theorem sf_209_192_l2 {sc : List Int} {d x : Nat} {Q : Option jm_V → hf_F → Nat → Prop} : ∀ (n : Nat) (φ : hf_F) (L : jm_L) (l1 l2 : Int), jm_get L 0 = some (2, 192) → jm_get L 1 = some (0, l1) → jm_get L 2 = some (0, l2) → Inv φ → 6 - l2 < (n : Int) → 0 ≤ l1 → l1 ≤ 7 → 0 ≤ l2 → l2 ≤ 6 → (∀ (r : Int), (-1 : Int) ≤ r ∧ r ≤ 5 → F_RideLawsModel_riderOn_192_l2 n φ l1 l2 = r → Q (some (0, r)) φ x) → hw sc d 209 2 L [] φ x Q := by
  intro n
  induction n with
  | zero =>
    intro φ L l1 l2 g0 g1 g2 hI hM b1a b1b b2a b2b hQ
    exfalso
    omega
  | succ n ih =>
    intro φ L l1 l2 g0 g1 g2 hI hM b1a b1b b2a b2b hQ
    refine sf_209_192_v2 g0 g1 g2 ?_
    have e0 := F_RideLawsModel_riderOn_192_l2_s (φ := φ) (l1 := l1) (l2 := l2) n
    have f1 := iv_at (a := 194) (k := 3) (lo := 0) (u := 6) hI (by decide +kernel)
    refine ⟨by unfold hi; omega, by unfold hi; omega, fun q1 => ?_, fun q1 => ?_⟩
    · skip
      have e1a := e0.trans (if_pos q1)
      exact hQ (-1 : Int) ⟨by omega, by omega⟩ e1a
    · skip
      have e1b := e0.trans (if_neg q1)
      refine ⟨by omega, by omega, ?_⟩
      have f2 := iv_ar (a := 194) (s := 112) (t := 118) (lo := 0) (u := 8) (z := 112 + l2) hI (by decide +kernel) (by omega) (by omega)
      refine ⟨by unfold hi; omega, by unfold hi; omega, fun q4 => ?_, fun q4 => ?_⟩
      · skip
        have e4a := e1b.trans (if_pos q4)
        exact ih φ (jm_st1 L 2 (0, l2 + 1)) l1 (l2 + 1) (get_st1 g0 (by decide) (fun q => absurd q.1 (by decide))) (get_st1 g1 (by decide) (fun q => tg0 q.2)) get_st1e hI (by omega) (by omega) (by omega) (by omega) (by omega) (fun rr hpχ hEχ => hQ rr hpχ (e4a.trans hEχ))
      · skip
        have e4b := e1b.trans (if_neg q4)
        exact hQ l2 ⟨by omega, by omega⟩ e4b
theorem sf_209_192_v {sc : List Int} {d : Nat} {φ : hf_F} {x : Nat} {Q : Option jm_V → hf_F → Nat → Prop} {v1 : Int}
    (H : hw sc d 209 2 (jm_st1 [(0, (2, 192)), (1, (0, v1))] 2 (0, 0)) [] φ x Q) :
    hw sc d 209 0 [(0, (2, 192)), (1, (0, v1))] [] φ x Q := by
  refine hw_k (c := 0) (b := 0) (e := 1) (by decide +kernel) ?_
  refine hw_st (L' := (jm_st1 [(0, (2, 192)), (1, (0, v1))] 2 (0, 0))) (b := 2) (e := 0) (by decide +kernel) rfl ?_
  exact H
theorem sf_209_192 {sc : List Int} {d : Nat} {φ : hf_F} {x : Nat} {Q : Option jm_V → hf_F → Nat → Prop} {v1 : Int} (hI : Inv φ) (h1a : 0 ≤ v1) (h1b : v1 ≤ 7) (hQ : ∀ (r : Int), (-1 : Int) ≤ r ∧ r ≤ 5 → F_RideLawsModel_riderOn_192 φ v1 = r → Q (some (0, r)) φ x) : hw sc d 209 0 [(0, (2, 192)), (1, (0, v1))] [] φ x Q := by
  apply sf_209_192_v
  have e0 : F_RideLawsModel_riderOn_192 φ v1 = _ := rfl
  exact sf_209_192_l2 ((6 - 0 : Int).toNat + 1) φ (jm_st1 [(0, (2, 192)), (1, (0, v1))] 2 (0, 0)) v1 0 (get_st1 rfl (by decide) (fun q => absurd q.1 (by decide))) (get_st1 rfl (by decide) (fun q => tg0 q.2)) get_st1e hI (by omega) (by omega) (by omega) (by omega) (by omega) (fun rr hpχ hEχ => hQ rr hpχ (e0.trans hEχ))
theorem sf_205_192_v4 {sc : List Int} {d : Nat} {φ : hf_F} {x : Nat} {Q : Option jm_V → hf_F → Nat → Prop} {L : jm_L} {l1 l2 l3 : Int} (g0 : jm_get L 0 = some (2, 192)) (g1 : jm_get L 1 = some (0, l1)) (g2 : jm_get L 2 = some (0, l2)) (g3 : jm_get L 3 = some (0, l3))
    (H : 0 ≤ (118 + l1) ∧ (118 + l1) < 361 ∧ (hi l3 ∧ hi (φ 194 ((118 + l1).toNat)) ∧ ((φ 194 ((118 + l1).toNat)) ≤ l3 → Q (some (0, l2)) φ x) ∧ (¬ (φ 194 ((118 + l1).toNat)) ≤ l3 → 0 ≤ ((124 + (6 * l1)) + l3) ∧ ((124 + (6 * l1)) + l3) < 361 ∧ (hw sc d 205 4 (jm_st1 (jm_st1 L 2 (0, hb_or l2 (hb_shl 1 (φ 194 (((124 + (6 * l1)) + l3).toNat))))) 3 (0, l3 + 1)) [] φ x Q)))) :
    hw sc d 205 4 L [] φ x Q := by
  refine hw_ld (b := 3) (e := 0) (by decide +kernel) g3 ?_
  refine hw_ald (b := 0) (e := 0) (by decide +kernel) g0 (by decide) ?_
  refine hr_gr (w := 194) (b := 12) (e := 6) 192 rfl (by decide +kernel) ?_
  refine hw_k (c := 118) (b := 1) (e := 2) (by decide +kernel) ?_
  refine hw_ld (b := 1) (e := 0) (by decide +kernel) g1 ?_
  refine hw_bin (w := 118 + l1) (a0 := 0) (b := 0) (e := 0) (by decide +kernel) rfl ?_
  obtain ⟨hl1, hu1, H⟩ := H
  refine hr_al (b := 0) (a0 := 0) (e := 0) (n := 361) (w := φ 194 ((118 + l1).toNat)) 194 rfl (by decide +kernel) (by decide) hl1 hu1 rfl ?_
  obtain ⟨hz2, hy2, ht2, hf2⟩ := H
  refine hw_if2 (a0 := 0) (b := 3) (e := 42) (by decide +kernel) hz2 hy2 (fun q => ?_) (fun q => ?_)
  · have H := ht2 q
    refine hw_ld (b := 2) (e := 0) (by decide +kernel) g2 ?_
    exact hw_ret (a0 := 0) (e := 0) (by decide +kernel) (Or.inl rfl) H
  · have H := hf2 q
    refine hw_ld (b := 2) (e := 0) (by decide +kernel) g2 ?_
    refine hw_k (c := 1) (b := 0) (e := 1) (by decide +kernel) ?_
    refine hw_ald (b := 0) (e := 0) (by decide +kernel) g0 (by decide) ?_
    refine hr_gr (w := 194) (b := 12) (e := 6) 192 rfl (by decide +kernel) ?_
    refine hw_k (c := 124) (b := 1) (e := 2) (by decide +kernel) ?_
    refine hw_k (c := 6) (b := 1) (e := 2) (by decide +kernel) ?_
    refine hw_ld (b := 1) (e := 0) (by decide +kernel) g1 ?_
    refine hw_bin (w := 6 * l1) (a0 := 0) (b := 2) (e := 0) (by decide +kernel) rfl ?_
    refine hw_bin (w := 124 + (6 * l1)) (a0 := 0) (b := 0) (e := 0) (by decide +kernel) rfl ?_
    refine hw_ld (b := 3) (e := 0) (by decide +kernel) g3 ?_
    refine hw_bin (w := (124 + (6 * l1)) + l3) (a0 := 0) (b := 0) (e := 0) (by decide +kernel) rfl ?_
    obtain ⟨hl4, hu4, H⟩ := H
    refine hr_al (b := 0) (a0 := 0) (e := 0) (n := 361) (w := φ 194 (((124 + (6 * l1)) + l3).toNat)) 194 rfl (by decide +kernel) (by decide) hl4 hu4 rfl ?_
    refine hw_bin (w := hb_shl 1 (φ 194 (((124 + (6 * l1)) + l3).toNat))) (a0 := 0) (b := 6) (e := 0) (by decide +kernel) rfl ?_
    refine hw_bin (w := hb_or l2 (hb_shl 1 (φ 194 (((124 + (6 * l1)) + l3).toNat)))) (a0 := 0) (b := 4) (e := 0) (by decide +kernel) rfl ?_
    refine hw_st (L' := (jm_st1 L 2 (0, hb_or l2 (hb_shl 1 (φ 194 (((124 + (6 * l1)) + l3).toNat)))))) (b := 2) (e := 0) (by decide +kernel) rfl ?_
    refine hw_inc (L' := (jm_st1 (jm_st1 L 2 (0, hb_or l2 (hb_shl 1 (φ 194 (((124 + (6 * l1)) + l3).toNat))))) 3 (0, l3 + 1))) (c := 1) (b := 3) (e := 0) (by decide +kernel) (get_st1 g3 (by decide) (fun q => absurd q.1 (by decide))) rfl ?_
    refine hw_goto (a0 := 0) (b := 0) (e := 4) (by decide +kernel) ?_
    exact H
theorem sf_205_192_l4 {sc : List Int} {d x : Nat} {Q : Option jm_V → hf_F → Nat → Prop} : ∀ (n : Nat) (φ : hf_F) (L : jm_L) (l1 l2 l3 : Int), jm_get L 0 = some (2, 192) → jm_get L 1 = some (0, l1) → jm_get L 2 = some (0, l2) → jm_get L 3 = some (0, l3) → Inv φ → 6 - l3 < (n : Int) → 0 ≤ l1 → l1 ≤ 5 → (-2147483648 : Int) ≤ l2 → l2 ≤ 2147483647 → 0 ≤ l3 → l3 ≤ 6 → (∀ (r : Int), True → F_RideLawsModel_knownTo_192_l4 n φ l1 l2 l3 = r → Q (some (0, r)) φ x) → hw sc d 205 4 L [] φ x Q := by
  intro n
  induction n with
  | zero =>
    intro φ L l1 l2 l3 g0 g1 g2 g3 hI hM b1a b1b b2a b2b b3a b3b hQ
    exfalso
    omega
  | succ n ih =>
    intro φ L l1 l2 l3 g0 g1 g2 g3 hI hM b1a b1b b2a b2b b3a b3b hQ
    refine sf_205_192_v4 g0 g1 g2 g3 ?_
    have e0 := F_RideLawsModel_knownTo_192_l4_s (φ := φ) (l1 := l1) (l2 := l2) (l3 := l3) n
    refine ⟨by omega, by omega, ?_⟩
    have f1 := iv_ar (a := 194) (s := 118) (t := 124) (lo := 0) (u := 6) (z := 118 + l1) hI (by decide +kernel) (by omega) (by omega)
    refine ⟨by unfold hi; omega, by unfold hi; omega, fun q2 => ?_, fun q2 => ?_⟩
    · skip
      have e2a := e0.trans (if_pos q2)
      exact hQ l2 trivial e2a
    · skip
      have e2b := e0.trans (if_neg q2)
      refine ⟨by omega, by omega, ?_⟩
      have f2 := iv_ar (a := 194) (s := 124) (t := 160) (lo := 0) (u := 7) (z := (124 + (6 * l1)) + l3) hI (by decide +kernel) (by omega) (by omega)
      have f3 := hr_shl1 (φ 194 (((124 + (6 * l1)) + l3).toNat))
      have f4 := hr_shl 1 (φ 194 (((124 + (6 * l1)) + l3).toNat))
      have f5 := hr_or l2 (hb_shl 1 (φ 194 (((124 + (6 * l1)) + l3).toNat)))
      exact ih φ (jm_st1 (jm_st1 L 2 (0, hb_or l2 (hb_shl 1 (φ 194 (((124 + (6 * l1)) + l3).toNat))))) 3 (0, l3 + 1)) l1 (hb_or l2 (hb_shl 1 (φ 194 (((124 + (6 * l1)) + l3).toNat)))) (l3 + 1) (get_st1 (get_st1 g0 (by decide) (fun q => absurd q.1 (by decide))) (by decide) (fun q => absurd q.1 (by decide))) (get_st1 (get_st1 g1 (by decide) (fun q => tg0 q.2)) (by decide) (fun q => absurd q.1 (by decide))) (get_st1 get_st1e (by decide) (fun q => tg0 q.2)) get_st1e hI (by omega) (by omega) (by omega) (by omega) (by omega) (by omega) (by omega) (fun rr hpχ hEχ => hQ rr hpχ (e2b.trans hEχ))
theorem sf_205_192_v {sc : List Int} {d : Nat} {φ : hf_F} {x : Nat} {Q : Option jm_V → hf_F → Nat → Prop} {v1 : Int}
    (H : hw sc d 205 4 (jm_st1 (jm_st1 [(0, (2, 192)), (1, (0, v1))] 2 (0, 0)) 3 (0, 0)) [] φ x Q) :
    hw sc d 205 0 [(0, (2, 192)), (1, (0, v1))] [] φ x Q := by
  refine hw_k (c := 0) (b := 0) (e := 1) (by decide +kernel) ?_
  refine hw_st (L' := (jm_st1 [(0, (2, 192)), (1, (0, v1))] 2 (0, 0))) (b := 2) (e := 0) (by decide +kernel) rfl ?_
  refine hw_k (c := 0) (b := 0) (e := 1) (by decide +kernel) ?_
  refine hw_st (L' := (jm_st1 (jm_st1 [(0, (2, 192)), (1, (0, v1))] 2 (0, 0)) 3 (0, 0))) (b := 3) (e := 0) (by decide +kernel) rfl ?_
  exact H
theorem sf_205_192 {sc : List Int} {d : Nat} {φ : hf_F} {x : Nat} {Q : Option jm_V → hf_F → Nat → Prop} {v1 : Int} (hI : Inv φ) (h1a : 0 ≤ v1) (h1b : v1 ≤ 5) (hQ : ∀ (r : Int), True → F_RideLawsModel_knownTo_192 φ v1 = r → Q (some (0, r)) φ x) : hw sc d 205 0 [(0, (2, 192)), (1, (0, v1))] [] φ x Q := by
  apply sf_205_192_v
  have e0 : F_RideLawsModel_knownTo_192 φ v1 = _ := rfl
  exact sf_205_192_l4 ((6 - 0 : Int).toNat + 1) φ (jm_st1 (jm_st1 [(0, (2, 192)), (1, (0, v1))] 2 (0, 0)) 3 (0, 0)) v1 0 0 (get_st1 (get_st1 rfl (by decide) (fun q => absurd q.1 (by decide))) (by decide) (fun q => absurd q.1 (by decide))) (get_st1 (get_st1 rfl (by decide) (fun q => tg0 q.2)) (by decide) (fun q => absurd q.1 (by decide))) (get_st1 get_st1e (by decide) (fun q => tg0 q.2)) get_st1e hI (by omega) (by omega) (by omega) (by omega) (by omega) (by omega) (by omega) (fun rr hpχ hEχ => hQ rr hpχ (e0.trans hEχ))
theorem sf_204_192_v {sc : List Int} {d : Nat} {φ : hf_F} {x : Nat} {Q : Option jm_V → hf_F → Nat → Prop} {v1 : Int}
    (H : 0 ≤ (118 + v1) ∧ (118 + v1) < 361 ∧ (hi (φ 194 ((118 + v1).toNat)) ∧ (¬ (φ 194 ((118 + v1).toNat)) = 0 → 0 ≤ (160 + v1) ∧ (160 + v1) < 361 ∧ (0 ≤ ((124 + (6 * v1)) + (φ 194 ((160 + v1).toNat))) ∧ ((124 + (6 * v1)) + (φ 194 ((160 + v1).toNat))) < 361 ∧ (Q (some (0, φ 194 (((124 + (6 * v1)) + (φ 194 ((160 + v1).toNat))).toNat))) φ x))) ∧ (¬ (¬ (φ 194 ((118 + v1).toNat)) = 0) → Q (some (0, (-1 : Int))) φ x))) :
    hw sc d 204 0 [(0, (2, 192)), (1, (0, v1))] [] φ x Q := by
  refine hw_ald (b := 0) (e := 0) (by decide +kernel) rfl (by decide) ?_
  refine hr_gr (w := 194) (b := 12) (e := 6) 192 rfl (by decide +kernel) ?_
  refine hw_k (c := 118) (b := 1) (e := 2) (by decide +kernel) ?_
  refine hw_ld (b := 1) (e := 0) (by decide +kernel) rfl ?_
  refine hw_bin (w := 118 + v1) (a0 := 0) (b := 0) (e := 0) (by decide +kernel) rfl ?_
  obtain ⟨hl1, hu1, H⟩ := H
  refine hr_al (b := 0) (a0 := 0) (e := 0) (n := 361) (w := φ 194 ((118 + v1).toNat)) 194 rfl (by decide +kernel) (by decide) hl1 hu1 rfl ?_
  obtain ⟨hz2, ht2, hf2⟩ := H
  refine hw_if (a0 := 0) (b := 1) (e := 16) (by decide +kernel) hz2 (fun q => ?_) (fun q => ?_)
  · have H := ht2 q
    refine hw_ald (b := 0) (e := 0) (by decide +kernel) rfl (by decide) ?_
    refine hr_gr (w := 194) (b := 12) (e := 6) 192 rfl (by decide +kernel) ?_
    refine hw_k (c := 124) (b := 1) (e := 2) (by decide +kernel) ?_
    refine hw_k (c := 6) (b := 1) (e := 2) (by decide +kernel) ?_
    refine hw_ld (b := 1) (e := 0) (by decide +kernel) rfl ?_
    refine hw_bin (w := 6 * v1) (a0 := 0) (b := 2) (e := 0) (by decide +kernel) rfl ?_
    refine hw_bin (w := 124 + (6 * v1)) (a0 := 0) (b := 0) (e := 0) (by decide +kernel) rfl ?_
    refine hw_ald (b := 0) (e := 0) (by decide +kernel) rfl (by decide) ?_
    refine hr_gr (w := 194) (b := 12) (e := 6) 192 rfl (by decide +kernel) ?_
    refine hw_k (c := 160) (b := 2) (e := 3) (by decide +kernel) ?_
    refine hw_ld (b := 1) (e := 0) (by decide +kernel) rfl ?_
    refine hw_bin (w := 160 + v1) (a0 := 0) (b := 0) (e := 0) (by decide +kernel) rfl ?_
    obtain ⟨hl3, hu3, H⟩ := H
    refine hr_al (b := 0) (a0 := 0) (e := 0) (n := 361) (w := φ 194 ((160 + v1).toNat)) 194 rfl (by decide +kernel) (by decide) hl3 hu3 rfl ?_
    refine hw_bin (w := (124 + (6 * v1)) + (φ 194 ((160 + v1).toNat))) (a0 := 0) (b := 0) (e := 0) (by decide +kernel) rfl ?_
    obtain ⟨hl4, hu4, H⟩ := H
    refine hr_al (b := 0) (a0 := 0) (e := 0) (n := 361) (w := φ 194 (((124 + (6 * v1)) + (φ 194 ((160 + v1).toNat))).toNat)) 194 rfl (by decide +kernel) (by decide) hl4 hu4 rfl ?_
    exact hw_ret (a0 := 0) (e := 0) (by decide +kernel) (Or.inl rfl) H
  · have H := hf2 q
    refine hw_k (c := (-1 : Int)) (b := 0) (e := 1) (by decide +kernel) ?_
    refine hw_goto (a0 := 0) (b := 0) (e := 39) (by decide +kernel) ?_
    exact hw_ret (a0 := 0) (e := 0) (by decide +kernel) (Or.inl rfl) H
theorem sf_204_192 {sc : List Int} {d : Nat} {φ : hf_F} {x : Nat} {Q : Option jm_V → hf_F → Nat → Prop} {v1 : Int} (hI : Inv φ) (h1a : 0 ≤ v1) (h1b : v1 ≤ 5) (hQ : ∀ (r : Int), (-1 : Int) ≤ r ∧ r ≤ 7 → F_RideLawsModel_nextWord_192 φ v1 = r → Q (some (0, r)) φ x) : hw sc d 204 0 [(0, (2, 192)), (1, (0, v1))] [] φ x Q := by
  apply sf_204_192_v
  have e0 : F_RideLawsModel_nextWord_192 φ v1 = _ := rfl
  refine ⟨by omega, by omega, ?_⟩
  have f1 := iv_ar (a := 194) (s := 118) (t := 124) (lo := 0) (u := 6) (z := 118 + v1) hI (by decide +kernel) (by omega) (by omega)
  refine ⟨by unfold hi; omega, fun q2 => ?_, fun q2 => ?_⟩
  · skip
    have e2a := e0.trans (if_pos q2)
    refine ⟨by omega, by omega, ?_⟩
    have f2 := iv_ar (a := 194) (s := 160) (t := 166) (lo := 0) (u := 5) (z := 160 + v1) hI (by decide +kernel) (by omega) (by omega)
    refine ⟨by omega, by omega, ?_⟩
    have f3 := iv_ar (a := 194) (s := 124) (t := 160) (lo := 0) (u := 7) (z := (124 + (6 * v1)) + (φ 194 ((160 + v1).toNat))) hI (by decide +kernel) (by omega) (by omega)
    exact hQ (φ 194 (((124 + (6 * v1)) + (φ 194 ((160 + v1).toNat))).toNat)) ⟨by omega, by omega⟩ e2a
  · skip
    have e2b := e0.trans (if_neg q2)
    exact hQ (-1 : Int) ⟨by omega, by omega⟩ e2b
theorem sf_215_192_v {sc : List Int} {d : Nat} {φ : hf_F} {x : Nat} {Q : Option jm_V → hf_F → Nat → Prop} {v1 v2 : Int}
    (H : 0 ≤ (112 + v1) ∧ (112 + v1) < 361 ∧ (hi (φ 194 ((112 + v1).toNat)) ∧ ((φ 194 ((112 + v1).toNat)) ≤ 0 → hw sc d 209 0 [(0, (2, 192)), (1, (0, v2))] [] φ x (fun r ψ3 y3 => y3 = x ∧ φ = ψ3 ∧ (∃ z3 : Int, r = some (0, z3) ∧ (hi z3 ∧ (z3 < 0 → Q (some (0, 0)) φ x) ∧ (¬ z3 < 0 → Q (some (0, 2)) φ x))))) ∧ (¬ (φ 194 ((112 + v1).toNat)) ≤ 0 → Q (some (0, 1)) φ x))) :
    hw sc (d + 1) 215 0 [(0, (2, 192)), (1, (0, v1)), (2, (0, v2))] [] φ x Q := by
  refine hw_ald (b := 0) (e := 0) (by decide +kernel) rfl (by decide) ?_
  refine hr_gr (w := 194) (b := 12) (e := 6) 192 rfl (by decide +kernel) ?_
  refine hw_k (c := 112) (b := 1) (e := 2) (by decide +kernel) ?_
  refine hw_ld (b := 1) (e := 0) (by decide +kernel) rfl ?_
  refine hw_bin (w := 112 + v1) (a0 := 0) (b := 0) (e := 0) (by decide +kernel) rfl ?_
  obtain ⟨hl1, hu1, H⟩ := H
  refine hr_al (b := 0) (a0 := 0) (e := 0) (n := 361) (w := φ 194 ((112 + v1).toNat)) 194 rfl (by decide +kernel) (by decide) hl1 hu1 rfl ?_
  obtain ⟨hz2, ht2, hf2⟩ := H
  refine hw_if (a0 := 0) (b := 5) (e := 16) (by decide +kernel) hz2 (fun q => ?_) (fun q => ?_)
  · have H := ht2 q
    refine hw_ald (b := 0) (e := 0) (by decide +kernel) rfl (by decide) ?_
    refine hw_ld (b := 2) (e := 0) (by decide +kernel) rfl ?_
    refine hr_call (a0 := 22) (b := 209) (e := 2) (nl := 3) (As := [(0, v2)]) (R := []) 192 rfl (by decide +kernel) rfl rfl (Nat.le_of_ble_eq_true rfl) (Nat.le_of_ble_eq_true rfl) ?_
    refine hw_mono H ?_
    rintro r ψ3 y3 ⟨hyx, hψx, z3, hr, H⟩
    subst hyx
    subst hψx
    subst hr
    refine ⟨hne0, ?_⟩
    show hw sc (d + 1) 215 21 [(0, (2, 192)), (1, (0, v1)), (2, (0, v2))] [(0, z3)] φ y3 Q
    obtain ⟨hz4, ht4, hf4⟩ := H
    refine hw_if (a0 := 0) (b := 2) (e := 28) (by decide +kernel) hz4 (fun q => ?_) (fun q => ?_)
    · have H := ht4 q
      refine hw_k (c := 0) (b := 0) (e := 1) (by decide +kernel) ?_
      exact hw_ret (a0 := 0) (e := 0) (by decide +kernel) (Or.inl rfl) H
    · have H := hf4 q
      refine hw_k (c := 2) (b := 0) (e := 1) (by decide +kernel) ?_
      refine hw_goto (a0 := 0) (b := 0) (e := 29) (by decide +kernel) ?_
      exact hw_ret (a0 := 0) (e := 0) (by decide +kernel) (Or.inl rfl) H
  · have H := hf2 q
    refine hw_k (c := 1) (b := 0) (e := 1) (by decide +kernel) ?_
    refine hw_goto (a0 := 0) (b := 0) (e := 29) (by decide +kernel) ?_
    exact hw_ret (a0 := 0) (e := 0) (by decide +kernel) (Or.inl rfl) H
theorem sf_215_192 {sc : List Int} {d : Nat} {φ : hf_F} {x : Nat} {Q : Option jm_V → hf_F → Nat → Prop} {v1 v2 : Int} (hI : Inv φ) (h1a : 0 ≤ v1) (h1b : v1 ≤ 5) (h2a : 0 ≤ v2) (h2b : v2 ≤ 7) (hQ : ∀ (r : Int), 0 ≤ r ∧ r ≤ 2 → F_RideLawsModel_whyMount_192 φ v1 v2 = r → Q (some (0, r)) φ x) : hw sc (d + 1) 215 0 [(0, (2, 192)), (1, (0, v1)), (2, (0, v2))] [] φ x Q := by
  apply sf_215_192_v
  have e0 : F_RideLawsModel_whyMount_192 φ v1 v2 = _ := rfl
  refine ⟨by omega, by omega, ?_⟩
  have f1 := iv_ar (a := 194) (s := 112) (t := 118) (lo := 0) (u := 8) (z := 112 + v1) hI (by decide +kernel) (by omega) (by omega)
  refine ⟨by unfold hi; omega, fun q2 => ?_, fun q2 => ?_⟩
  · skip
    have e2a := e0.trans (if_pos q2)
    refine sf_209_192 (φ := φ) hI (by omega) (by omega) (fun z3 hp3 hE3 => ⟨rfl, rfl, z3, rfl, ?_⟩)
    have e3 := e2a.trans (bnp_e hE3)
    refine ⟨by unfold hi; omega, fun q4 => ?_, fun q4 => ?_⟩
    · skip
      have e4a := e3.trans (if_pos q4)
      exact hQ 0 ⟨by omega, by omega⟩ e4a
    · skip
      have e4b := e3.trans (if_neg q4)
      exact hQ 2 ⟨by omega, by omega⟩ e4b
  · skip
    have e2b := e0.trans (if_neg q2)
    exact hQ 1 ⟨by omega, by omega⟩ e2b
theorem sf_219_192_v {sc : List Int} {d : Nat} {φ : hf_F} {x : Nat} {Q : Option jm_V → hf_F → Nat → Prop} {v1 : Int}
    (H : 0 ≤ (118 + v1) ∧ (118 + v1) < 361 ∧ (hi (φ 194 ((118 + v1).toNat)) ∧ hi 6 ∧ (¬ (φ 194 ((118 + v1).toNat)) = 6 → Q (some (0, 0)) φ x) ∧ (¬ (¬ (φ 194 ((118 + v1).toNat)) = 6) → Q (some (0, 1)) φ x))) :
    hw sc d 219 0 [(0, (2, 192)), (1, (0, v1))] [] φ x Q := by
  refine hw_ald (b := 0) (e := 0) (by decide +kernel) rfl (by decide) ?_
  refine hr_gr (w := 194) (b := 12) (e := 6) 192 rfl (by decide +kernel) ?_
  refine hw_k (c := 118) (b := 1) (e := 2) (by decide +kernel) ?_
  refine hw_ld (b := 1) (e := 0) (by decide +kernel) rfl ?_
  refine hw_bin (w := 118 + v1) (a0 := 0) (b := 0) (e := 0) (by decide +kernel) rfl ?_
  obtain ⟨hl1, hu1, H⟩ := H
  refine hr_al (b := 0) (a0 := 0) (e := 0) (n := 361) (w := φ 194 ((118 + v1).toNat)) 194 rfl (by decide +kernel) (by decide) hl1 hu1 rfl ?_
  refine hw_k (c := 6) (b := 1) (e := 2) (by decide +kernel) ?_
  obtain ⟨hz2, hy2, ht2, hf2⟩ := H
  refine hw_if2 (a0 := 0) (b := 1) (e := 18) (by decide +kernel) hz2 hy2 (fun q => ?_) (fun q => ?_)
  · have H := ht2 q
    refine hw_k (c := 0) (b := 0) (e := 1) (by decide +kernel) ?_
    exact hw_ret (a0 := 0) (e := 0) (by decide +kernel) (Or.inl rfl) H
  · have H := hf2 q
    refine hw_k (c := 1) (b := 0) (e := 1) (by decide +kernel) ?_
    refine hw_goto (a0 := 0) (b := 0) (e := 19) (by decide +kernel) ?_
    exact hw_ret (a0 := 0) (e := 0) (by decide +kernel) (Or.inl rfl) H
theorem sf_219_192 {sc : List Int} {d : Nat} {φ : hf_F} {x : Nat} {Q : Option jm_V → hf_F → Nat → Prop} {v1 : Int} (hI : Inv φ) (h1a : 0 ≤ v1) (h1b : v1 ≤ 5) (hQ : ∀ (r : Int), 0 ≤ r ∧ r ≤ 1 ∧ (r = 0 → ¬ φ 194 (118 + v1).toNat = 6) → F_RideLawsModel_whyLearn_192 φ v1 = r → Q (some (0, r)) φ x) : hw sc d 219 0 [(0, (2, 192)), (1, (0, v1))] [] φ x Q := by
  apply sf_219_192_v
  have e0 : F_RideLawsModel_whyLearn_192 φ v1 = _ := rfl
  refine ⟨by omega, by omega, ?_⟩
  have f1 := iv_ar (a := 194) (s := 118) (t := 124) (lo := 0) (u := 6) (z := 118 + v1) hI (by decide +kernel) (by omega) (by omega)
  refine ⟨by unfold hi; omega, by unfold hi; omega, fun q2 => ?_, fun q2 => ?_⟩
  · skip
    have e2a := e0.trans (if_pos q2)
    exact hQ 0 ⟨by omega, by omega, by omega⟩ e2a
  · skip
    have e2b := e0.trans (if_neg q2)
    exact hQ 1 ⟨by omega, by omega, by omega⟩ e2b
theorem sf_222_192_v {sc : List Int} {d : Nat} {φ : hf_F} {x : Nat} {Q : Option jm_V → hf_F → Nat → Prop} 
    (H : hi (φ 194 102) ∧ (¬ (φ 194 102) = 0 → Q (some (0, 0)) φ x) ∧ (¬ (¬ (φ 194 102) = 0) → hi (φ 194 100) ∧ (¬ (φ 194 100) = 0 → Q (some (0, 0)) φ x) ∧ (¬ (¬ (φ 194 100) = 0) → Q (some (0, 1)) φ x))) :
    hw sc d 222 0 [(0, (2, 192))] [] φ x Q := by
  refine hw_ald (b := 0) (e := 0) (by decide +kernel) rfl (by decide) ?_
  refine hr_gr (w := 194) (b := 12) (e := 6) 192 rfl (by decide +kernel) ?_
  refine hw_k (c := 102) (b := 1) (e := 2) (by decide +kernel) ?_
  refine hr_al (b := 0) (a0 := 0) (e := 0) (n := 361) (w := φ 194 102) 194 rfl (by decide +kernel) (by decide) (by decide) (by decide) rfl ?_
  obtain ⟨hz1, ht1, hf1⟩ := H
  refine hw_if (a0 := 0) (b := 1) (e := 24) (by decide +kernel) hz1 (fun q => ?_) (fun q => ?_)
  · have H := ht1 q
    refine hw_k (c := 0) (b := 0) (e := 1) (by decide +kernel) ?_
    exact hw_ret (a0 := 0) (e := 0) (by decide +kernel) (Or.inl rfl) H
  · have H := hf1 q
    refine hw_ald (b := 0) (e := 0) (by decide +kernel) rfl (by decide) ?_
    refine hr_gr (w := 194) (b := 12) (e := 6) 192 rfl (by decide +kernel) ?_
    refine hw_k (c := 100) (b := 1) (e := 2) (by decide +kernel) ?_
    refine hr_al (b := 0) (a0 := 0) (e := 0) (n := 361) (w := φ 194 100) 194 rfl (by decide +kernel) (by decide) (by decide) (by decide) rfl ?_
    obtain ⟨hz3, ht3, hf3⟩ := H
    refine hw_if (a0 := 0) (b := 1) (e := 24) (by decide +kernel) hz3 (fun q => ?_) (fun q => ?_)
    · have H := ht3 q
      refine hw_k (c := 0) (b := 0) (e := 1) (by decide +kernel) ?_
      exact hw_ret (a0 := 0) (e := 0) (by decide +kernel) (Or.inl rfl) H
    · have H := hf3 q
      refine hw_k (c := 1) (b := 0) (e := 1) (by decide +kernel) ?_
      refine hw_goto (a0 := 0) (b := 0) (e := 25) (by decide +kernel) ?_
      exact hw_ret (a0 := 0) (e := 0) (by decide +kernel) (Or.inl rfl) H
theorem sf_222_192 {sc : List Int} {d : Nat} {φ : hf_F} {x : Nat} {Q : Option jm_V → hf_F → Nat → Prop}  (hI : Inv φ)  (hQ : ∀ (r : Int), 0 ≤ r ∧ r ≤ 1 → F_RideLawsModel_whyWhistle_192 φ = r → Q (some (0, r)) φ x) : hw sc d 222 0 [(0, (2, 192))] [] φ x Q := by
  apply sf_222_192_v
  have e0 : F_RideLawsModel_whyWhistle_192 φ = _ := rfl
  have f1 := iv_at (a := 194) (k := 102) (lo := (-2147483648 : Int)) (u := 2147483647) hI (by decide +kernel)
  refine ⟨by unfold hi; omega, fun q1 => ?_, fun q1 => ?_⟩
  · skip
    have e1a := e0.trans (if_pos q1)
    exact hQ 0 ⟨by omega, by omega⟩ e1a
  · skip
    have e1b := e0.trans (if_neg q1)
    have f2 := iv_at (a := 194) (k := 100) (lo := 0) (u := 8) hI (by decide +kernel)
    refine ⟨by unfold hi; omega, fun q3 => ?_, fun q3 => ?_⟩
    · skip
      have e3a := e1b.trans (if_pos q3)
      exact hQ 0 ⟨by omega, by omega⟩ e3a
    · skip
      have e3b := e1b.trans (if_neg q3)
      exact hQ 1 ⟨by omega, by omega⟩ e3b
theorem sf_207_192_v {sc : List Int} {d : Nat} {φ : hf_F} {x : Nat} {Q : Option jm_V → hf_F → Nat → Prop} {v1 v2 : Int}
    (H : hw sc (d + 1) 208 0 [(0, (2, 192)), (1, (0, v1))] [] (hf_up φ 192 0 0) x (fun r ψ1 y1 => y1 = x ∧ (hf_up φ 192 0 0) = ψ1 ∧ (∃ z1 : Int, r = some (0, z1) ∧ (hi z1 ∧ (¬ z1 = 0 → hi v2 ∧ (¬ v2 = 0 → hi v2 ∧ hi 1 ∧ (¬ v2 = 1 → hi v2 ∧ hi 2 ∧ (¬ v2 = 2 → Q (some (0, (-1 : Int))) (hf_up φ 192 0 0) x) ∧ (¬ (¬ v2 = 2) → hw sc (d + 1) 209 0 [(0, (2, 192)), (1, (0, v1))] [] (hf_up φ 192 0 0) x (fun r ψ7 y7 => y7 = x ∧ (hf_up φ 192 0 0) = ψ7 ∧ (∃ z7 : Int, r = some (0, z7) ∧ (Q (some (0, z7)) (hf_up φ 192 0 0) x))))) ∧ (¬ (¬ v2 = 1) → 0 ≤ (104 + v1) ∧ (104 + v1) < 361 ∧ (Q (some (0, φ 194 ((104 + v1).toNat))) (hf_up φ 192 0 0) x))) ∧ (¬ (¬ v2 = 0) → 0 ≤ (11 + v1) ∧ (11 + v1) < 361 ∧ (Q (some (0, φ 194 ((11 + v1).toNat))) (hf_up φ 192 0 0) x))) ∧ (¬ (¬ z1 = 0) → Q (some (0, (-1 : Int))) (hf_up φ 192 0 0) x))))) :
    hw sc (d + 2) 207 0 [(0, (2, 192)), (1, (0, v1)), (2, (0, v2))] [] φ x Q := by
  refine hw_ald (b := 0) (e := 0) (by decide +kernel) rfl (by decide) ?_
  refine hw_k (c := 0) (b := 0) (e := 1) (by decide +kernel) ?_
  refine hr_pi (b := 12) (e := 0) 192 rfl (by decide +kernel) ?_
  refine hw_ald (b := 0) (e := 0) (by decide +kernel) rfl (by decide) ?_
  refine hw_ld (b := 1) (e := 0) (by decide +kernel) rfl ?_
  refine hr_call (a0 := 22) (b := 208) (e := 2) (nl := 2) (As := [(0, v1)]) (R := []) 192 rfl (by decide +kernel) rfl rfl (Nat.le_of_ble_eq_true rfl) (Nat.le_of_ble_eq_true rfl) ?_
  refine hw_mono H ?_
  rintro r ψ1 y1 ⟨hyx, hψx, z1, hr, H⟩
  subst hyx
  subst hψx
  subst hr
  refine ⟨hne0, ?_⟩
  show hw sc (d + 2) 207 10 [(0, (2, 192)), (1, (0, v1)), (2, (0, v2))] [(0, z1)] (hf_up φ 192 0 0) y1 Q
  obtain ⟨hz2, ht2, hf2⟩ := H
  refine hw_if (a0 := 0) (b := 1) (e := 15) (by decide +kernel) hz2 (fun q => ?_) (fun q => ?_)
  · have H := ht2 q
    refine hw_ld (b := 2) (e := 0) (by decide +kernel) rfl ?_
    obtain ⟨hz3, ht3, hf3⟩ := H
    refine hw_if (a0 := 0) (b := 1) (e := 31) (by decide +kernel) hz3 (fun q => ?_) (fun q => ?_)
    · have H := ht3 q
      refine hw_ld (b := 2) (e := 0) (by decide +kernel) rfl ?_
      refine hw_k (c := 1) (b := 0) (e := 1) (by decide +kernel) ?_
      obtain ⟨hz4, hy4, ht4, hf4⟩ := H
      refine hw_if2 (a0 := 0) (b := 1) (e := 48) (by decide +kernel) hz4 hy4 (fun q => ?_) (fun q => ?_)
      · have H := ht4 q
        refine hw_ld (b := 2) (e := 0) (by decide +kernel) rfl ?_
        refine hw_k (c := 2) (b := 0) (e := 1) (by decide +kernel) ?_
        obtain ⟨hz5, hy5, ht5, hf5⟩ := H
        refine hw_if2 (a0 := 0) (b := 1) (e := 61) (by decide +kernel) hz5 hy5 (fun q => ?_) (fun q => ?_)
        · have H := ht5 q
          refine hw_k (c := (-1 : Int)) (b := 0) (e := 1) (by decide +kernel) ?_
          exact hw_ret (a0 := 0) (e := 0) (by decide +kernel) (Or.inl rfl) H
        · have H := hf5 q
          refine hw_ald (b := 0) (e := 0) (by decide +kernel) rfl (by decide) ?_
          refine hw_ld (b := 1) (e := 0) (by decide +kernel) rfl ?_
          refine hr_call (a0 := 22) (b := 209) (e := 2) (nl := 3) (As := [(0, v1)]) (R := []) 192 rfl (by decide +kernel) rfl rfl (Nat.le_of_ble_eq_true rfl) (Nat.le_of_ble_eq_true rfl) ?_
          refine hw_mono H ?_
          rintro r ψ7 y7 ⟨hyx, hψx, z7, hr, H⟩
          subst hyx
          subst hψx
          subst hr
          refine ⟨hne0, ?_⟩
          show hw sc (d + 2) 207 58 [(0, (2, 192)), (1, (0, v1)), (2, (0, v2))] [(0, z7)] (hf_up φ 192 0 0) y7 Q
          refine hw_goto (a0 := 0) (b := 0) (e := 62) (by decide +kernel) ?_
          exact hw_ret (a0 := 0) (e := 0) (by decide +kernel) (Or.inl rfl) H
      · have H := hf4 q
        refine hw_ald (b := 0) (e := 0) (by decide +kernel) rfl (by decide) ?_
        refine hr_gr (w := 194) (b := 12) (e := 6) 192 rfl (by decide +kernel) ?_
        refine hw_k (c := 104) (b := 1) (e := 2) (by decide +kernel) ?_
        refine hw_ld (b := 1) (e := 0) (by decide +kernel) rfl ?_
        refine hw_bin (w := 104 + v1) (a0 := 0) (b := 0) (e := 0) (by decide +kernel) rfl ?_
        obtain ⟨hl9, hu9, H⟩ := H
        refine hr_al (b := 0) (a0 := 0) (e := 0) (n := 361) (w := φ 194 ((104 + v1).toNat)) 194 rfl (by decide +kernel) (by decide) hl9 hu9 (hf_up_ne (fun q => absurd q.1 (by decide))) ?_
        refine hw_goto (a0 := 0) (b := 0) (e := 62) (by decide +kernel) ?_
        exact hw_ret (a0 := 0) (e := 0) (by decide +kernel) (Or.inl rfl) H
    · have H := hf3 q
      refine hw_ald (b := 0) (e := 0) (by decide +kernel) rfl (by decide) ?_
      refine hr_gr (w := 194) (b := 12) (e := 6) 192 rfl (by decide +kernel) ?_
      refine hw_k (c := 11) (b := 1) (e := 2) (by decide +kernel) ?_
      refine hw_ld (b := 1) (e := 0) (by decide +kernel) rfl ?_
      refine hw_bin (w := 11 + v1) (a0 := 0) (b := 0) (e := 0) (by decide +kernel) rfl ?_
      obtain ⟨hl11, hu11, H⟩ := H
      refine hr_al (b := 0) (a0 := 0) (e := 0) (n := 361) (w := φ 194 ((11 + v1).toNat)) 194 rfl (by decide +kernel) (by decide) hl11 hu11 (hf_up_ne (fun q => absurd q.1 (by decide))) ?_
      refine hw_goto (a0 := 0) (b := 0) (e := 62) (by decide +kernel) ?_
      exact hw_ret (a0 := 0) (e := 0) (by decide +kernel) (Or.inl rfl) H
  · have H := hf2 q
    refine hw_k (c := (-1 : Int)) (b := 0) (e := 1) (by decide +kernel) ?_
    exact hw_ret (a0 := 0) (e := 0) (by decide +kernel) (Or.inl rfl) H
theorem sf_207_192 {sc : List Int} {d : Nat} {φ : hf_F} {x : Nat} {Q : Option jm_V → hf_F → Nat → Prop} {v1 v2 : Int} (hI : Inv φ) (h1a : (-2147483648 : Int) ≤ v1) (h1b : v1 ≤ 2147483647) (h2a : (-2147483648 : Int) ≤ v2) (h2b : v2 ≤ 2147483647) (hQ : ∀ (r : Int) (ψ : hf_F), Inv ψ → Fr [193000] φ ψ → True → F_RideLawsModel_seat_192 φ v1 v2 = (r, ψ) → Q (some (0, r)) ψ x) : hw sc (d + 2) 207 0 [(0, (2, 192)), (1, (0, v1)), (2, (0, v2))] [] φ x Q := by
  apply sf_207_192_v
  have e0 : F_RideLawsModel_seat_192 φ v1 v2 = _ := rfl
  have i1 : Inv (hf_up φ 192 0 0) := iv_up (lo := 0) (u := 1) hI (by decide +kernel) (by omega) (by omega)
  have r1 : Fr [193000] φ (hf_up φ 192 0 0) := fr_up (fr_rf) (by decide)
  refine sf_208_192 (φ := (hf_up φ 192 0 0)) i1 (by omega) (by omega) (fun z1 hp1 hE1 => ⟨rfl, rfl, z1, rfl, ?_⟩)
  have e1 := e0.trans (bnp_e hE1)
  have f2 : (hf_up φ 192 0 0) 194 1 = φ 194 1 := (hf_up_ne (fun q => absurd q.1 (by decide)))
  have f3 := iv_at (a := 194) (k := 1) (lo := 0) (u := 8) hI (by decide +kernel)
  refine ⟨by unfold hi; omega, fun q2 => ?_, fun q2 => ?_⟩
  · skip
    have e2a := e1.trans (if_pos q2)
    refine ⟨by unfold hi; omega, fun q3 => ?_, fun q3 => ?_⟩
    · skip
      have e3a := e2a.trans (if_pos q3)
      refine ⟨by unfold hi; omega, by unfold hi; omega, fun q4 => ?_, fun q4 => ?_⟩
      · skip
        have e4a := e3a.trans (if_pos q4)
        refine ⟨by unfold hi; omega, by unfold hi; omega, fun q5 => ?_, fun q5 => ?_⟩
        · skip
          have e5a := e4a.trans (if_pos q5)
          exact hQ (-1 : Int) (hf_up φ 192 0 0) i1 r1 trivial e5a
        · skip
          have e5b := e4a.trans (if_neg q5)
          refine sf_209_192 (φ := (hf_up φ 192 0 0)) i1 (by omega) (by omega) (fun z7 hp7 hE7 => ⟨rfl, rfl, z7, rfl, ?_⟩)
          have e7 := e5b.trans (bnp_e hE7)
          exact hQ z7 (hf_up φ 192 0 0) i1 r1 trivial e7
      · skip
        have e4b := e3a.trans (if_neg q4)
        refine ⟨by omega, by omega, ?_⟩
        have f4 := iv_ar (a := 194) (s := 104) (t := 112) (lo := 0) (u := 29) (z := 104 + v1) hI (by decide +kernel) (by omega) (by omega)
        exact hQ (φ 194 ((104 + v1).toNat)) (hf_up φ 192 0 0) i1 r1 trivial e4b
    · skip
      have e3b := e2a.trans (if_neg q3)
      refine ⟨by omega, by omega, ?_⟩
      have f5 := iv_ar (a := 194) (s := 11) (t := 19) (lo := 0) (u := 2) (z := 11 + v1) hI (by decide +kernel) (by omega) (by omega)
      exact hQ (φ 194 ((11 + v1).toNat)) (hf_up φ 192 0 0) i1 r1 trivial e3b
  · skip
    have e2b := e1.trans (if_neg q2)
    exact hQ (-1 : Int) (hf_up φ 192 0 0) i1 r1 trivial e2b
theorem sf_210_192_v {sc : List Int} {d : Nat} {φ : hf_F} {x : Nat} {Q : Option jm_V → hf_F → Nat → Prop} {v1 v2 : Int}
    (H : hw sc (d + 1) 211 0 [(0, (2, 192)), (1, (0, v1))] [] (hf_up φ 192 0 0) x (fun r ψ1 y1 => y1 = x ∧ (hf_up φ 192 0 0) = ψ1 ∧ (∃ z1 : Int, r = some (0, z1) ∧ (hi z1 ∧ (¬ z1 = 0 → hi v2 ∧ (v2 = 0 → 0 ≤ (75 + v1) ∧ (75 + v1) < 361 ∧ (Q (some (0, φ 194 ((75 + v1).toNat))) (hf_up φ 192 0 0) x)) ∧ (v2 = 1 → 0 ≤ (83 + v1) ∧ (83 + v1) < 361 ∧ (Q (some (0, φ 194 ((83 + v1).toNat))) (hf_up φ 192 0 0) x)) ∧ (v2 = 2 → Q (some (0, hb_and (hb_shr (φ 194 102) v1) 1)) (hf_up φ 192 0 0) x) ∧ (v2 = 3 → 0 ≤ (91 + v1) ∧ (91 + v1) < 361 ∧ (Q (some (0, φ 194 ((91 + v1).toNat))) (hf_up φ 192 0 0) x)) ∧ (v2 = 4 → 0 ≤ (172 + v1) ∧ (172 + v1) < 361 ∧ (Q (some (0, φ 194 ((172 + v1).toNat))) (hf_up φ 192 0 0) x)) ∧ ((v2 < 0 ∨ 5 ≤ v2) → Q (some (0, (-1 : Int))) (hf_up φ 192 0 0) x)) ∧ (¬ (¬ z1 = 0) → Q (some (0, (-1 : Int))) (hf_up φ 192 0 0) x))))) :
    hw sc (d + 2) 210 0 [(0, (2, 192)), (1, (0, v1)), (2, (0, v2))] [] φ x Q := by
  refine hw_ald (b := 0) (e := 0) (by decide +kernel) rfl (by decide) ?_
  refine hw_k (c := 0) (b := 0) (e := 1) (by decide +kernel) ?_
  refine hr_pi (b := 12) (e := 0) 192 rfl (by decide +kernel) ?_
  refine hw_ald (b := 0) (e := 0) (by decide +kernel) rfl (by decide) ?_
  refine hw_ld (b := 1) (e := 0) (by decide +kernel) rfl ?_
  refine hr_call (a0 := 22) (b := 211) (e := 2) (nl := 2) (As := [(0, v1)]) (R := []) 192 rfl (by decide +kernel) rfl rfl (Nat.le_of_ble_eq_true rfl) (Nat.le_of_ble_eq_true rfl) ?_
  refine hw_mono H ?_
  rintro r ψ1 y1 ⟨hyx, hψx, z1, hr, H⟩
  subst hyx
  subst hψx
  subst hr
  refine ⟨hne0, ?_⟩
  show hw sc (d + 2) 210 10 [(0, (2, 192)), (1, (0, v1)), (2, (0, v2))] [(0, z1)] (hf_up φ 192 0 0) y1 Q
  obtain ⟨hz2, ht2, hf2⟩ := H
  refine hw_if (a0 := 0) (b := 1) (e := 15) (by decide +kernel) hz2 (fun q => ?_) (fun q => ?_)
  · have H := ht2 q
    refine hw_ld (b := 2) (e := 0) (by decide +kernel) rfl ?_
    obtain ⟨hz3, H⟩ := H
    refine hr_tsw (T := [52, 62, 72, 84, 94]) (lo := 0) (nn := 5) (b := 105) (e := 10) (by decide +kernel) rfl hz3 ?_ ?_
    · intro q
      have H := H.2.2.2.2.2 q
      refine hw_k (c := (-1 : Int)) (b := 0) (e := 1) (by decide +kernel) ?_
      exact hw_ret (a0 := 0) (e := 0) (by decide +kernel) (Or.inl rfl) H
    · intro kq tq htq hzq
      match kq, htq, hzq with
      | 0, htq, hzq =>
        cases htq
        have H := H.1 (by omega)
        refine hw_ald (b := 0) (e := 0) (by decide +kernel) rfl (by decide) ?_
        refine hr_gr (w := 194) (b := 12) (e := 6) 192 rfl (by decide +kernel) ?_
        refine hw_k (c := 75) (b := 1) (e := 2) (by decide +kernel) ?_
        refine hw_ld (b := 1) (e := 0) (by decide +kernel) rfl ?_
        refine hw_bin (w := 75 + v1) (a0 := 0) (b := 0) (e := 0) (by decide +kernel) rfl ?_
        obtain ⟨hl4, hu4, H⟩ := H
        refine hr_al (b := 0) (a0 := 0) (e := 0) (n := 361) (w := φ 194 ((75 + v1).toNat)) 194 rfl (by decide +kernel) (by decide) hl4 hu4 (hf_up_ne (fun q => absurd q.1 (by decide))) ?_
        exact hw_ret (a0 := 0) (e := 0) (by decide +kernel) (Or.inl rfl) H
      | 1, htq, hzq =>
        cases htq
        have H := H.2.1 (by omega)
        refine hw_ald (b := 0) (e := 0) (by decide +kernel) rfl (by decide) ?_
        refine hr_gr (w := 194) (b := 12) (e := 6) 192 rfl (by decide +kernel) ?_
        refine hw_k (c := 83) (b := 1) (e := 2) (by decide +kernel) ?_
        refine hw_ld (b := 1) (e := 0) (by decide +kernel) rfl ?_
        refine hw_bin (w := 83 + v1) (a0 := 0) (b := 0) (e := 0) (by decide +kernel) rfl ?_
        obtain ⟨hl6, hu6, H⟩ := H
        refine hr_al (b := 0) (a0 := 0) (e := 0) (n := 361) (w := φ 194 ((83 + v1).toNat)) 194 rfl (by decide +kernel) (by decide) hl6 hu6 (hf_up_ne (fun q => absurd q.1 (by decide))) ?_
        exact hw_ret (a0 := 0) (e := 0) (by decide +kernel) (Or.inl rfl) H
      | 2, htq, hzq =>
        cases htq
        have H := H.2.2.1 (by omega)
        refine hw_ald (b := 0) (e := 0) (by decide +kernel) rfl (by decide) ?_
        refine hr_gr (w := 194) (b := 12) (e := 6) 192 rfl (by decide +kernel) ?_
        refine hw_k (c := 102) (b := 1) (e := 2) (by decide +kernel) ?_
        refine hr_al (b := 0) (a0 := 0) (e := 0) (n := 361) (w := φ 194 102) 194 rfl (by decide +kernel) (by decide) (by decide) (by decide) (hf_up_ne (fun q => absurd q.1 (by decide))) ?_
        refine hw_ld (b := 1) (e := 0) (by decide +kernel) rfl ?_
        refine hw_bin (w := hb_shr (φ 194 102) v1) (a0 := 0) (b := 7) (e := 0) (by decide +kernel) rfl ?_
        refine hw_k (c := 1) (b := 0) (e := 1) (by decide +kernel) ?_
        refine hw_bin (w := hb_and (hb_shr (φ 194 102) v1) 1) (a0 := 0) (b := 3) (e := 0) (by decide +kernel) rfl ?_
        exact hw_ret (a0 := 0) (e := 0) (by decide +kernel) (Or.inl rfl) H
      | 3, htq, hzq =>
        cases htq
        have H := H.2.2.2.1 (by omega)
        refine hw_ald (b := 0) (e := 0) (by decide +kernel) rfl (by decide) ?_
        refine hr_gr (w := 194) (b := 12) (e := 6) 192 rfl (by decide +kernel) ?_
        refine hw_k (c := 91) (b := 1) (e := 2) (by decide +kernel) ?_
        refine hw_ld (b := 1) (e := 0) (by decide +kernel) rfl ?_
        refine hw_bin (w := 91 + v1) (a0 := 0) (b := 0) (e := 0) (by decide +kernel) rfl ?_
        obtain ⟨hl9, hu9, H⟩ := H
        refine hr_al (b := 0) (a0 := 0) (e := 0) (n := 361) (w := φ 194 ((91 + v1).toNat)) 194 rfl (by decide +kernel) (by decide) hl9 hu9 (hf_up_ne (fun q => absurd q.1 (by decide))) ?_
        exact hw_ret (a0 := 0) (e := 0) (by decide +kernel) (Or.inl rfl) H
      | 4, htq, hzq =>
        cases htq
        have H := H.2.2.2.2.1 (by omega)
        refine hw_ald (b := 0) (e := 0) (by decide +kernel) rfl (by decide) ?_
        refine hr_gr (w := 194) (b := 12) (e := 6) 192 rfl (by decide +kernel) ?_
        refine hw_k (c := 172) (b := 2) (e := 3) (by decide +kernel) ?_
        refine hw_ld (b := 1) (e := 0) (by decide +kernel) rfl ?_
        refine hw_bin (w := 172 + v1) (a0 := 0) (b := 0) (e := 0) (by decide +kernel) rfl ?_
        obtain ⟨hl11, hu11, H⟩ := H
        refine hr_al (b := 0) (a0 := 0) (e := 0) (n := 361) (w := φ 194 ((172 + v1).toNat)) 194 rfl (by decide +kernel) (by decide) hl11 hu11 (hf_up_ne (fun q => absurd q.1 (by decide))) ?_
        exact hw_ret (a0 := 0) (e := 0) (by decide +kernel) (Or.inl rfl) H
      | kq + 5, htq, _ => cases htq
  · have H := hf2 q
    refine hw_k (c := (-1 : Int)) (b := 0) (e := 1) (by decide +kernel) ?_
    exact hw_ret (a0 := 0) (e := 0) (by decide +kernel) (Or.inl rfl) H
theorem sf_210_192 {sc : List Int} {d : Nat} {φ : hf_F} {x : Nat} {Q : Option jm_V → hf_F → Nat → Prop} {v1 v2 : Int} (hI : Inv φ) (h1a : (-2147483648 : Int) ≤ v1) (h1b : v1 ≤ 2147483647) (h2a : (-2147483648 : Int) ≤ v2) (h2b : v2 ≤ 2147483647) (hQ : ∀ (r : Int) (ψ : hf_F), Inv ψ → Fr [193000] φ ψ → True → F_RideLawsModel_law_192 φ v1 v2 = (r, ψ) → Q (some (0, r)) ψ x) : hw sc (d + 2) 210 0 [(0, (2, 192)), (1, (0, v1)), (2, (0, v2))] [] φ x Q := by
  apply sf_210_192_v
  have e0 : F_RideLawsModel_law_192 φ v1 v2 = _ := rfl
  have i1 : Inv (hf_up φ 192 0 0) := iv_up (lo := 0) (u := 1) hI (by decide +kernel) (by omega) (by omega)
  have r1 : Fr [193000] φ (hf_up φ 192 0 0) := fr_up (fr_rf) (by decide)
  refine sf_211_192 (φ := (hf_up φ 192 0 0)) i1 (by omega) (by omega) (fun z1 hp1 hE1 => ⟨rfl, rfl, z1, rfl, ?_⟩)
  have e1 := e0.trans (bnp_e hE1)
  have f2 : (hf_up φ 192 0 0) 194 4 = φ 194 4 := (hf_up_ne (fun q => absurd q.1 (by decide)))
  have f3 := iv_at (a := 194) (k := 4) (lo := 0) (u := 8) hI (by decide +kernel)
  refine ⟨by unfold hi; omega, fun q2 => ?_, fun q2 => ?_⟩
  · skip
    have e2a := e1.trans (if_pos q2)
    refine ⟨by unfold hi; omega, fun q3 => ?_, fun q3 => ?_, fun q3 => ?_, fun q3 => ?_, fun q3 => ?_, fun q3 => ?_⟩
    · skip
      have e3_0 := (e2a).trans (if_pos q3)
      refine ⟨by omega, by omega, ?_⟩
      have f4 := iv_ar (a := 194) (s := 75) (t := 83) (lo := 0) (u := 7) (z := 75 + v1) hI (by decide +kernel) (by omega) (by omega)
      exact hQ (φ 194 ((75 + v1).toNat)) (hf_up φ 192 0 0) i1 r1 trivial e3_0
    · skip
      have e3_1 := ((e2a).trans (if_neg (by omega))).trans (if_pos q3)
      refine ⟨by omega, by omega, ?_⟩
      have f5 := iv_ar (a := 194) (s := 83) (t := 91) (lo := 0) (u := 7) (z := 83 + v1) hI (by decide +kernel) (by omega) (by omega)
      exact hQ (φ 194 ((83 + v1).toNat)) (hf_up φ 192 0 0) i1 r1 trivial e3_1
    · skip
      have e3_2 := (((e2a).trans (if_neg (by omega))).trans (if_neg (by omega))).trans (if_pos q3)
      have f6 := iv_at (a := 194) (k := 102) (lo := (-2147483648 : Int)) (u := 2147483647) hI (by decide +kernel)
      have f7 := hr_shr0 (φ 194 102) v1
      have f8 := hr_shr (φ 194 102) v1
      have f9 := hr_and0 (hb_shr (φ 194 102) v1) 1
      have f10 := hr_and1 (hb_shr (φ 194 102) v1)
      have f11 := hr_and (hb_shr (φ 194 102) v1) 1
      exact hQ (hb_and (hb_shr (φ 194 102) v1) 1) (hf_up φ 192 0 0) i1 r1 trivial e3_2
    · skip
      have e3_3 := ((((e2a).trans (if_neg (by omega))).trans (if_neg (by omega))).trans (if_neg (by omega))).trans (if_pos q3)
      refine ⟨by omega, by omega, ?_⟩
      have f12 := iv_ar (a := 194) (s := 91) (t := 99) (lo := (-2147483648 : Int)) (u := 2147483647) (z := 91 + v1) hI (by decide +kernel) (by omega) (by omega)
      exact hQ (φ 194 ((91 + v1).toNat)) (hf_up φ 192 0 0) i1 r1 trivial e3_3
    · skip
      have e3_4 := (((((e2a).trans (if_neg (by omega))).trans (if_neg (by omega))).trans (if_neg (by omega))).trans (if_neg (by omega))).trans (if_pos q3)
      refine ⟨by omega, by omega, ?_⟩
      exact hQ (φ 194 ((172 + v1).toNat)) (hf_up φ 192 0 0) i1 r1 trivial e3_4
    · skip
      have e3_5 := (((((e2a).trans (if_neg (by omega))).trans (if_neg (by omega))).trans (if_neg (by omega))).trans (if_neg (by omega))).trans (if_neg (by omega))
      exact hQ (-1 : Int) (hf_up φ 192 0 0) i1 r1 trivial e3_5
  · skip
    have e2b := e1.trans (if_neg q2)
    exact hQ (-1 : Int) (hf_up φ 192 0 0) i1 r1 trivial e2b
theorem sf_206_192_v {sc : List Int} {d : Nat} {φ : hf_F} {x : Nat} {Q : Option jm_V → hf_F → Nat → Prop} {v1 v2 : Int}
    (H : hw sc (d + 1) 202 0 [(0, (2, 192)), (1, (0, v1))] [] (hf_up φ 192 0 0) x (fun r ψ1 y1 => y1 = x ∧ (hf_up φ 192 0 0) = ψ1 ∧ (∃ z1 : Int, r = some (0, z1) ∧ (hi z1 ∧ (z1 = 0 → Q (some (0, (-1 : Int))) (hf_up φ 192 0 0) x) ∧ (¬ z1 = 0 → 0 ≤ (118 + v1) ∧ (118 + v1) < 361 ∧ (hw sc (d + 1) 188 0 [(0, (0, v2)), (1, (0, 0)), (2, (0, (φ 194 ((118 + v1).toNat)) - 1))] [] (hf_up φ 192 0 0) x (fun r ψ5 y5 => y5 = x ∧ (hf_up φ 192 0 0) = ψ5 ∧ (∃ z5 : Int, r = some (0, z5) ∧ (hi z5 ∧ (z5 = 0 → Q (some (0, (-1 : Int))) (hf_up φ 192 0 0) x) ∧ (¬ z5 = 0 → 0 ≤ ((124 + (6 * v1)) + v2) ∧ ((124 + (6 * v1)) + v2) < 361 ∧ (Q (some (0, φ 194 (((124 + (6 * v1)) + v2).toNat))) (hf_up φ 192 0 0) x))))))))))) :
    hw sc (d + 2) 206 0 [(0, (2, 192)), (1, (0, v1)), (2, (0, v2))] [] φ x Q := by
  refine hw_ald (b := 0) (e := 0) (by decide +kernel) rfl (by decide) ?_
  refine hw_k (c := 0) (b := 0) (e := 1) (by decide +kernel) ?_
  refine hr_pi (b := 12) (e := 0) 192 rfl (by decide +kernel) ?_
  refine hw_ald (b := 0) (e := 0) (by decide +kernel) rfl (by decide) ?_
  refine hw_ld (b := 1) (e := 0) (by decide +kernel) rfl ?_
  refine hr_call (a0 := 22) (b := 202) (e := 2) (nl := 2) (As := [(0, v1)]) (R := []) 192 rfl (by decide +kernel) rfl rfl (Nat.le_of_ble_eq_true rfl) (Nat.le_of_ble_eq_true rfl) ?_
  refine hw_mono H ?_
  rintro r ψ1 y1 ⟨hyx, hψx, z1, hr, H⟩
  subst hyx
  subst hψx
  subst hr
  refine ⟨hne0, ?_⟩
  show hw sc (d + 2) 206 10 [(0, (2, 192)), (1, (0, v1)), (2, (0, v2))] [(0, z1)] (hf_up φ 192 0 0) y1 Q
  obtain ⟨hz2, ht2, hf2⟩ := H
  refine hw_if (a0 := 0) (b := 0) (e := 49) (by decide +kernel) hz2 (fun q => ?_) (fun q => ?_)
  · have H := ht2 q
    refine hw_k (c := (-1 : Int)) (b := 0) (e := 1) (by decide +kernel) ?_
    exact hw_ret (a0 := 0) (e := 0) (by decide +kernel) (Or.inl rfl) H
  · have H := hf2 q
    refine hw_ld (b := 2) (e := 0) (by decide +kernel) rfl ?_
    refine hw_k (c := 0) (b := 0) (e := 1) (by decide +kernel) ?_
    refine hw_ald (b := 0) (e := 0) (by decide +kernel) rfl (by decide) ?_
    refine hr_gr (w := 194) (b := 12) (e := 6) 192 rfl (by decide +kernel) ?_
    refine hw_k (c := 118) (b := 1) (e := 2) (by decide +kernel) ?_
    refine hw_ld (b := 1) (e := 0) (by decide +kernel) rfl ?_
    refine hw_bin (w := 118 + v1) (a0 := 0) (b := 0) (e := 0) (by decide +kernel) rfl ?_
    obtain ⟨hl4, hu4, H⟩ := H
    refine hr_al (b := 0) (a0 := 0) (e := 0) (n := 361) (w := φ 194 ((118 + v1).toNat)) 194 rfl (by decide +kernel) (by decide) hl4 hu4 (hf_up_ne (fun q => absurd q.1 (by decide))) ?_
    refine hw_k (c := 1) (b := 0) (e := 1) (by decide +kernel) ?_
    refine hw_bin (w := (φ 194 ((118 + v1).toNat)) - 1) (a0 := 0) (b := 1) (e := 0) (by decide +kernel) rfl ?_
    refine hr_calls (b := 188) (e := 3) (nl := 3) (As := [(0, v2), (0, 0), (0, (φ 194 ((118 + v1).toNat)) - 1)]) (R := []) (by decide +kernel) rfl rfl (Nat.le_of_ble_eq_true rfl) (Nat.le_of_ble_eq_true rfl) ?_
    refine hw_mono H ?_
    rintro r ψ5 y5 ⟨hyx, hψx, z5, hr, H⟩
    subst hyx
    subst hψx
    subst hr
    refine ⟨hne0, ?_⟩
    show hw sc (d + 2) 206 29 [(0, (2, 192)), (1, (0, v1)), (2, (0, v2))] [(0, z5)] (hf_up φ 192 0 0) y5 Q
    obtain ⟨hz6, ht6, hf6⟩ := H
    refine hw_if (a0 := 0) (b := 0) (e := 49) (by decide +kernel) hz6 (fun q => ?_) (fun q => ?_)
    · have H := ht6 q
      refine hw_k (c := (-1 : Int)) (b := 0) (e := 1) (by decide +kernel) ?_
      exact hw_ret (a0 := 0) (e := 0) (by decide +kernel) (Or.inl rfl) H
    · have H := hf6 q
      refine hw_ald (b := 0) (e := 0) (by decide +kernel) rfl (by decide) ?_
      refine hr_gr (w := 194) (b := 12) (e := 6) 192 rfl (by decide +kernel) ?_
      refine hw_k (c := 124) (b := 1) (e := 2) (by decide +kernel) ?_
      refine hw_k (c := 6) (b := 1) (e := 2) (by decide +kernel) ?_
      refine hw_ld (b := 1) (e := 0) (by decide +kernel) rfl ?_
      refine hw_bin (w := 6 * v1) (a0 := 0) (b := 2) (e := 0) (by decide +kernel) rfl ?_
      refine hw_bin (w := 124 + (6 * v1)) (a0 := 0) (b := 0) (e := 0) (by decide +kernel) rfl ?_
      refine hw_ld (b := 2) (e := 0) (by decide +kernel) rfl ?_
      refine hw_bin (w := (124 + (6 * v1)) + v2) (a0 := 0) (b := 0) (e := 0) (by decide +kernel) rfl ?_
      obtain ⟨hl8, hu8, H⟩ := H
      refine hr_al (b := 0) (a0 := 0) (e := 0) (n := 361) (w := φ 194 (((124 + (6 * v1)) + v2).toNat)) 194 rfl (by decide +kernel) (by decide) hl8 hu8 (hf_up_ne (fun q => absurd q.1 (by decide))) ?_
      refine hw_goto (a0 := 0) (b := 0) (e := 50) (by decide +kernel) ?_
      exact hw_ret (a0 := 0) (e := 0) (by decide +kernel) (Or.inl rfl) H
theorem sf_206_192 {sc : List Int} {d : Nat} {φ : hf_F} {x : Nat} {Q : Option jm_V → hf_F → Nat → Prop} {v1 v2 : Int} (hI : Inv φ) (h1a : (-2147483648 : Int) ≤ v1) (h1b : v1 ≤ 2147483647) (h2a : (-2147483648 : Int) ≤ v2) (h2b : v2 ≤ 2147483647) (hQ : ∀ (r : Int) (ψ : hf_F), Inv ψ → Fr [193000] φ ψ → True → F_RideLawsModel_roll_192 φ v1 v2 = (r, ψ) → Q (some (0, r)) ψ x) : hw sc (d + 2) 206 0 [(0, (2, 192)), (1, (0, v1)), (2, (0, v2))] [] φ x Q := by
  apply sf_206_192_v
  have e0 : F_RideLawsModel_roll_192 φ v1 v2 = _ := rfl
  have i1 : Inv (hf_up φ 192 0 0) := iv_up (lo := 0) (u := 1) hI (by decide +kernel) (by omega) (by omega)
  have r1 : Fr [193000] φ (hf_up φ 192 0 0) := fr_up (fr_rf) (by decide)
  refine sf_202_192 (φ := (hf_up φ 192 0 0)) i1 (by omega) (by omega) (fun z1 hp1 hE1 => ⟨rfl, rfl, z1, rfl, ?_⟩)
  have e1 := e0.trans (bnp_e hE1)
  have f2 : (hf_up φ 192 0 0) 194 3 = φ 194 3 := (hf_up_ne (fun q => absurd q.1 (by decide)))
  have f3 := iv_at (a := 194) (k := 3) (lo := 0) (u := 6) hI (by decide +kernel)
  refine ⟨by unfold hi; omega, fun q2 => ?_, fun q2 => ?_⟩
  · skip
    have e2a := e1.trans (if_pos q2)
    exact hQ (-1 : Int) (hf_up φ 192 0 0) i1 r1 trivial e2a
  · skip
    have e2b := e1.trans (if_neg q2)
    refine ⟨by omega, by omega, ?_⟩
    have f4 := iv_ar (a := 194) (s := 118) (t := 124) (lo := 0) (u := 6) (z := 118 + v1) hI (by decide +kernel) (by omega) (by omega)
    refine sf_188 (φ := (hf_up φ 192 0 0)) i1 (by omega) (by omega) (by omega) (by omega) (by omega) (by omega) (fun z5 hp5 hE5 => ⟨rfl, rfl, z5, rfl, ?_⟩)
    have e5 := e2b.trans (bnp_e hE5)
    have f5 : (hf_up φ 192 0 0) 194 ((118 + v1).toNat) = φ 194 ((118 + v1).toNat) := (hf_up_ne (fun q => absurd q.1 (by decide)))
    refine ⟨by unfold hi; omega, fun q6 => ?_, fun q6 => ?_⟩
    · skip
      have e6a := e5.trans (if_pos q6)
      exact hQ (-1 : Int) (hf_up φ 192 0 0) i1 r1 trivial e6a
    · skip
      have e6b := e5.trans (if_neg q6)
      refine ⟨by omega, by omega, ?_⟩
      have f6 := iv_ar (a := 194) (s := 124) (t := 160) (lo := 0) (u := 7) (z := (124 + (6 * v1)) + v2) hI (by decide +kernel) (by omega) (by omega)
      exact hQ (φ 194 (((124 + (6 * v1)) + v2).toNat)) (hf_up φ 192 0 0) i1 r1 trivial e6b
theorem sf_240_192_v {sc : List Int} {d : Nat} {φ : hf_F} {x : Nat} {Q : Option jm_V → hf_F → Nat → Prop} {v1 : Int}
    (H : 0 ≤ (75 + v1) ∧ (75 + v1) < 361 ∧ (0 ≤ (83 + v1) ∧ (83 + v1) < 361 ∧ (Q (some (0, hb_or (hb_shl 1 (φ 194 ((75 + v1).toNat))) (hb_shl 1 (φ 194 ((83 + v1).toNat))))) φ x))) :
    hw sc d 240 0 [(0, (2, 192)), (1, (0, v1))] [] φ x Q := by
  refine hw_k (c := 1) (b := 0) (e := 1) (by decide +kernel) ?_
  refine hw_ald (b := 0) (e := 0) (by decide +kernel) rfl (by decide) ?_
  refine hr_gr (w := 194) (b := 12) (e := 6) 192 rfl (by decide +kernel) ?_
  refine hw_k (c := 75) (b := 1) (e := 2) (by decide +kernel) ?_
  refine hw_ld (b := 1) (e := 0) (by decide +kernel) rfl ?_
  refine hw_bin (w := 75 + v1) (a0 := 0) (b := 0) (e := 0) (by decide +kernel) rfl ?_
  obtain ⟨hl1, hu1, H⟩ := H
  refine hr_al (b := 0) (a0 := 0) (e := 0) (n := 361) (w := φ 194 ((75 + v1).toNat)) 194 rfl (by decide +kernel) (by decide) hl1 hu1 rfl ?_
  refine hw_bin (w := hb_shl 1 (φ 194 ((75 + v1).toNat))) (a0 := 0) (b := 6) (e := 0) (by decide +kernel) rfl ?_
  refine hw_k (c := 1) (b := 0) (e := 1) (by decide +kernel) ?_
  refine hw_ald (b := 0) (e := 0) (by decide +kernel) rfl (by decide) ?_
  refine hr_gr (w := 194) (b := 12) (e := 6) 192 rfl (by decide +kernel) ?_
  refine hw_k (c := 83) (b := 1) (e := 2) (by decide +kernel) ?_
  refine hw_ld (b := 1) (e := 0) (by decide +kernel) rfl ?_
  refine hw_bin (w := 83 + v1) (a0 := 0) (b := 0) (e := 0) (by decide +kernel) rfl ?_
  obtain ⟨hl2, hu2, H⟩ := H
  refine hr_al (b := 0) (a0 := 0) (e := 0) (n := 361) (w := φ 194 ((83 + v1).toNat)) 194 rfl (by decide +kernel) (by decide) hl2 hu2 rfl ?_
  refine hw_bin (w := hb_shl 1 (φ 194 ((83 + v1).toNat))) (a0 := 0) (b := 6) (e := 0) (by decide +kernel) rfl ?_
  refine hw_bin (w := hb_or (hb_shl 1 (φ 194 ((75 + v1).toNat))) (hb_shl 1 (φ 194 ((83 + v1).toNat)))) (a0 := 0) (b := 4) (e := 0) (by decide +kernel) rfl ?_
  exact hw_ret (a0 := 0) (e := 0) (by decide +kernel) (Or.inl rfl) H
theorem sf_240_192 {sc : List Int} {d : Nat} {φ : hf_F} {x : Nat} {Q : Option jm_V → hf_F → Nat → Prop} {v1 : Int} (hI : Inv φ) (h1a : 0 ≤ v1) (h1b : v1 ≤ 7) (hQ : ∀ (r : Int), True → F_RideLawsModel_needOf_192 φ v1 = r → Q (some (0, r)) φ x) : hw sc d 240 0 [(0, (2, 192)), (1, (0, v1))] [] φ x Q := by
  apply sf_240_192_v
  have e0 : F_RideLawsModel_needOf_192 φ v1 = _ := rfl
  refine ⟨by omega, by omega, ?_⟩
  have f1 := iv_ar (a := 194) (s := 75) (t := 83) (lo := 0) (u := 7) (z := 75 + v1) hI (by decide +kernel) (by omega) (by omega)
  have f2 := hr_shl1 (φ 194 ((75 + v1).toNat))
  have f3 := hr_shl 1 (φ 194 ((75 + v1).toNat))
  refine ⟨by omega, by omega, ?_⟩
  have f4 := iv_ar (a := 194) (s := 83) (t := 91) (lo := 0) (u := 7) (z := 83 + v1) hI (by decide +kernel) (by omega) (by omega)
  have f5 := hr_shl1 (φ 194 ((83 + v1).toNat))
  have f6 := hr_shl 1 (φ 194 ((83 + v1).toNat))
  have f7 := hr_or (hb_shl 1 (φ 194 ((75 + v1).toNat))) (hb_shl 1 (φ 194 ((83 + v1).toNat)))
  exact hQ (hb_or (hb_shl 1 (φ 194 ((75 + v1).toNat))) (hb_shl 1 (φ 194 ((83 + v1).toNat)))) trivial e0
theorem sf_239_192_v19 {sc : List Int} {d : Nat} {φ : hf_F} {x : Nat} {Q : Option jm_V → hf_F → Nat → Prop} {L : jm_L} {l1 l2 l3 : Int} (g0 : jm_get L 0 = some (2, 192)) (g1 : jm_get L 1 = some (0, l1)) (g2 : jm_get L 2 = some (0, l2)) (g3 : jm_get L 3 = some (0, l3))
    (H : hi l3 ∧ hi (φ 194 3) ∧ ((φ 194 3) ≤ l3 → Q (some (0, l2)) φ x) ∧ (¬ (φ 194 3) ≤ l3 → hw sc (d + 1) 205 0 [(0, (2, 192)), (1, (0, l3))] [] φ x (fun r ψ3 y3 => y3 = x ∧ φ = ψ3 ∧ (∃ z3 : Int, r = some (0, z3) ∧ (hw sc (d + 1) 240 0 [(0, (2, 192)), (1, (0, l1))] [] φ x (fun r ψ4 y4 => y4 = x ∧ φ = ψ4 ∧ (∃ z4 : Int, r = some (0, z4) ∧ (hi (hb_and z3 z4) ∧ ((hb_and z3 z4) = 0 → hw sc (d + 2) 239 19 (jm_st1 (jm_st1 L 2 (0, hb_or l2 0)) 3 (0, l3 + 1)) [] φ x Q) ∧ (¬ (hb_and z3 z4) = 0 → hw sc (d + 2) 239 19 (jm_st1 (jm_st1 L 2 (0, hb_or l2 (hb_shl 1 l3))) 3 (0, l3 + 1)) [] φ x Q))))))))) :
    hw sc (d + 2) 239 19 L [] φ x Q := by
  refine hw_ld (b := 3) (e := 0) (by decide +kernel) g3 ?_
  refine hw_ald (b := 0) (e := 0) (by decide +kernel) g0 (by decide) ?_
  refine hr_gr (w := 194) (b := 12) (e := 6) 192 rfl (by decide +kernel) ?_
  refine hw_k (c := 3) (b := 0) (e := 1) (by decide +kernel) ?_
  refine hr_al (b := 0) (a0 := 0) (e := 0) (n := 361) (w := φ 194 3) 194 rfl (by decide +kernel) (by decide) (by decide) (by decide) rfl ?_
  obtain ⟨hz1, hy1, ht1, hf1⟩ := H
  refine hw_if2 (a0 := 0) (b := 3) (e := 59) (by decide +kernel) hz1 hy1 (fun q => ?_) (fun q => ?_)
  · have H := ht1 q
    refine hw_ld (b := 2) (e := 0) (by decide +kernel) g2 ?_
    exact hw_ret (a0 := 0) (e := 0) (by decide +kernel) (Or.inl rfl) H
  · have H := hf1 q
    refine hw_ld (b := 2) (e := 0) (by decide +kernel) g2 ?_
    refine hw_ald (b := 0) (e := 0) (by decide +kernel) g0 (by decide) ?_
    refine hw_ld (b := 3) (e := 0) (by decide +kernel) g3 ?_
    refine hr_call (a0 := 22) (b := 205) (e := 2) (nl := 4) (As := [(0, l3)]) (R := [(0, l2)]) 192 rfl (by decide +kernel) rfl rfl (Nat.le_of_ble_eq_true rfl) (Nat.le_of_ble_eq_true rfl) ?_
    refine hw_mono H ?_
    rintro r ψ3 y3 ⟨hyx, hψx, z3, hr, H⟩
    subst hyx
    subst hψx
    subst hr
    refine ⟨hne0, ?_⟩
    show hw sc (d + 2) 239 35 L [(0, z3), (0, l2)] φ y3 Q
    refine hw_ald (b := 0) (e := 0) (by decide +kernel) g0 (by decide) ?_
    refine hw_ld (b := 1) (e := 0) (by decide +kernel) g1 ?_
    refine hr_call (a0 := 22) (b := 240) (e := 2) (nl := 2) (As := [(0, l1)]) (R := [(0, z3), (0, l2)]) 192 rfl (by decide +kernel) rfl rfl (Nat.le_of_ble_eq_true rfl) (Nat.le_of_ble_eq_true rfl) ?_
    refine hw_mono H ?_
    rintro r ψ4 y4 ⟨hyx, hψx, z4, hr, H⟩
    subst hyx
    subst hψx
    subst hr
    refine ⟨hne0, ?_⟩
    show hw sc (d + 2) 239 40 L [(0, z4), (0, z3), (0, l2)] φ y4 Q
    refine hw_bin (w := hb_and z3 z4) (a0 := 0) (b := 3) (e := 0) (by decide +kernel) rfl ?_
    obtain ⟨hz5, ht5, hf5⟩ := H
    refine hw_if (a0 := 0) (b := 0) (e := 50) (by decide +kernel) hz5 (fun q => ?_) (fun q => ?_)
    · have H := ht5 q
      refine hw_k (c := 0) (b := 0) (e := 1) (by decide +kernel) ?_
      refine hw_bin (w := hb_or l2 0) (a0 := 0) (b := 4) (e := 0) (by decide +kernel) rfl ?_
      refine hw_st (L' := (jm_st1 L 2 (0, hb_or l2 0))) (b := 2) (e := 0) (by decide +kernel) rfl ?_
      refine hw_inc (L' := (jm_st1 (jm_st1 L 2 (0, hb_or l2 0)) 3 (0, l3 + 1))) (c := 1) (b := 3) (e := 0) (by decide +kernel) (get_st1 g3 (by decide) (fun q => absurd q.1 (by decide))) rfl ?_
      refine hw_goto (a0 := 0) (b := 0) (e := 19) (by decide +kernel) ?_
      exact H
    · have H := hf5 q
      refine hw_k (c := 1) (b := 0) (e := 1) (by decide +kernel) ?_
      refine hw_ld (b := 3) (e := 0) (by decide +kernel) g3 ?_
      refine hw_bin (w := hb_shl 1 l3) (a0 := 0) (b := 6) (e := 0) (by decide +kernel) rfl ?_
      refine hw_goto (a0 := 0) (b := 0) (e := 51) (by decide +kernel) ?_
      refine hw_bin (w := hb_or l2 (hb_shl 1 l3)) (a0 := 0) (b := 4) (e := 0) (by decide +kernel) rfl ?_
      refine hw_st (L' := (jm_st1 L 2 (0, hb_or l2 (hb_shl 1 l3)))) (b := 2) (e := 0) (by decide +kernel) rfl ?_
      refine hw_inc (L' := (jm_st1 (jm_st1 L 2 (0, hb_or l2 (hb_shl 1 l3))) 3 (0, l3 + 1))) (c := 1) (b := 3) (e := 0) (by decide +kernel) (get_st1 g3 (by decide) (fun q => absurd q.1 (by decide))) rfl ?_
      refine hw_goto (a0 := 0) (b := 0) (e := 19) (by decide +kernel) ?_
      exact H
theorem sf_239_192_l19 {sc : List Int} {d x : Nat} {Q : Option jm_V → hf_F → Nat → Prop} : ∀ (n : Nat) (φ : hf_F) (L : jm_L) (l1 l2 l3 : Int), jm_get L 0 = some (2, 192) → jm_get L 1 = some (0, l1) → jm_get L 2 = some (0, l2) → jm_get L 3 = some (0, l3) → Inv φ → 6 - l3 < (n : Int) → 0 ≤ l1 → l1 ≤ 7 → (-2147483648 : Int) ≤ l2 → l2 ≤ 2147483647 → 0 ≤ l3 → l3 ≤ 6 → (∀ (r : Int) (ψ : hf_F), Inv ψ → Fr [193000] φ ψ → True → F_RideLawsModel_able_192_l19 n φ l1 l2 l3 = (r, ψ) → Q (some (0, r)) ψ x) → hw sc (d + 2) 239 19 L [] φ x Q := by
  intro n
  induction n with
  | zero =>
    intro φ L l1 l2 l3 g0 g1 g2 g3 hI hM b1a b1b b2a b2b b3a b3b hQ
    exfalso
    omega
  | succ n ih =>
    intro φ L l1 l2 l3 g0 g1 g2 g3 hI hM b1a b1b b2a b2b b3a b3b hQ
    refine sf_239_192_v19 g0 g1 g2 g3 ?_
    have e0 := F_RideLawsModel_able_192_l19_s (φ := φ) (l1 := l1) (l2 := l2) (l3 := l3) n
    have f1 := iv_at (a := 194) (k := 3) (lo := 0) (u := 6) hI (by decide +kernel)
    refine ⟨by unfold hi; omega, by unfold hi; omega, fun q1 => ?_, fun q1 => ?_⟩
    · skip
      have e1a := e0.trans (if_pos q1)
      exact hQ l2 φ hI (fr_rf) trivial e1a
    · skip
      have e1b := e0.trans (if_neg q1)
      refine sf_205_192 (φ := φ) hI (by omega) (by omega) (fun z3 hp3 hE3 => ⟨rfl, rfl, z3, rfl, ?_⟩)
      have e3 := e1b.trans (bnp_e hE3)
      refine sf_240_192 (φ := φ) hI (by omega) (by omega) (fun z4 hp4 hE4 => ⟨rfl, rfl, z4, rfl, ?_⟩)
      have e4 := e3.trans (bnp_e hE4)
      have f2 := hr_and0 z3 z4
      have f3 := hr_and z3 z4
      refine ⟨by unfold hi; omega, fun q5 => ?_, fun q5 => ?_⟩
      · skip
        have e5a := e4.trans (if_pos q5)
        have f4 := hr_or l2 0
        exact ih φ (jm_st1 (jm_st1 L 2 (0, hb_or l2 0)) 3 (0, l3 + 1)) l1 (hb_or l2 0) (l3 + 1) (get_st1 (get_st1 g0 (by decide) (fun q => absurd q.1 (by decide))) (by decide) (fun q => absurd q.1 (by decide))) (get_st1 (get_st1 g1 (by decide) (fun q => tg0 q.2)) (by decide) (fun q => absurd q.1 (by decide))) (get_st1 get_st1e (by decide) (fun q => tg0 q.2)) get_st1e hI (by omega) (by omega) (by omega) (by omega) (by omega) (by omega) (by omega) (fun rr χ hIχ hFχ hpχ hEχ => hQ rr χ hIχ (fr_tr (fr_rf) hFχ (by decide)) hpχ (e5a.trans hEχ))
      · skip
        have e5b := e4.trans (if_neg q5)
        have f5 := hr_shl1 l3
        have f6 := hr_shl 1 l3
        have f7 := hr_or l2 (hb_shl 1 l3)
        exact ih φ (jm_st1 (jm_st1 L 2 (0, hb_or l2 (hb_shl 1 l3))) 3 (0, l3 + 1)) l1 (hb_or l2 (hb_shl 1 l3)) (l3 + 1) (get_st1 (get_st1 g0 (by decide) (fun q => absurd q.1 (by decide))) (by decide) (fun q => absurd q.1 (by decide))) (get_st1 (get_st1 g1 (by decide) (fun q => tg0 q.2)) (by decide) (fun q => absurd q.1 (by decide))) (get_st1 get_st1e (by decide) (fun q => tg0 q.2)) get_st1e hI (by omega) (by omega) (by omega) (by omega) (by omega) (by omega) (by omega) (fun rr χ hIχ hFχ hpχ hEχ => hQ rr χ hIχ (fr_tr (fr_rf) hFχ (by decide)) hpχ (e5b.trans hEχ))
theorem sf_239_192_v {sc : List Int} {d : Nat} {φ : hf_F} {x : Nat} {Q : Option jm_V → hf_F → Nat → Prop} {v1 : Int}
    (H : hw sc (d + 1) 211 0 [(0, (2, 192)), (1, (0, v1))] [] (hf_up φ 192 0 0) x (fun r ψ1 y1 => y1 = x ∧ (hf_up φ 192 0 0) = ψ1 ∧ (∃ z1 : Int, r = some (0, z1) ∧ (hi z1 ∧ (¬ z1 = 0 → hw sc (d + 2) 239 19 (jm_st1 (jm_st1 [(0, (2, 192)), (1, (0, v1))] 2 (0, 0)) 3 (0, 0)) [] (hf_up φ 192 0 0) x Q) ∧ (¬ (¬ z1 = 0) → Q (some (0, (-1 : Int))) (hf_up φ 192 0 0) x))))) :
    hw sc (d + 2) 239 0 [(0, (2, 192)), (1, (0, v1))] [] φ x Q := by
  refine hw_ald (b := 0) (e := 0) (by decide +kernel) rfl (by decide) ?_
  refine hw_k (c := 0) (b := 0) (e := 1) (by decide +kernel) ?_
  refine hr_pi (b := 12) (e := 0) 192 rfl (by decide +kernel) ?_
  refine hw_ald (b := 0) (e := 0) (by decide +kernel) rfl (by decide) ?_
  refine hw_ld (b := 1) (e := 0) (by decide +kernel) rfl ?_
  refine hr_call (a0 := 22) (b := 211) (e := 2) (nl := 2) (As := [(0, v1)]) (R := []) 192 rfl (by decide +kernel) rfl rfl (Nat.le_of_ble_eq_true rfl) (Nat.le_of_ble_eq_true rfl) ?_
  refine hw_mono H ?_
  rintro r ψ1 y1 ⟨hyx, hψx, z1, hr, H⟩
  subst hyx
  subst hψx
  subst hr
  refine ⟨hne0, ?_⟩
  show hw sc (d + 2) 239 10 [(0, (2, 192)), (1, (0, v1))] [(0, z1)] (hf_up φ 192 0 0) y1 Q
  obtain ⟨hz2, ht2, hf2⟩ := H
  refine hw_if (a0 := 0) (b := 1) (e := 15) (by decide +kernel) hz2 (fun q => ?_) (fun q => ?_)
  · have H := ht2 q
    refine hw_k (c := 0) (b := 0) (e := 1) (by decide +kernel) ?_
    refine hw_st (L' := (jm_st1 [(0, (2, 192)), (1, (0, v1))] 2 (0, 0))) (b := 2) (e := 0) (by decide +kernel) rfl ?_
    refine hw_k (c := 0) (b := 0) (e := 1) (by decide +kernel) ?_
    refine hw_st (L' := (jm_st1 (jm_st1 [(0, (2, 192)), (1, (0, v1))] 2 (0, 0)) 3 (0, 0))) (b := 3) (e := 0) (by decide +kernel) rfl ?_
    exact H
  · have H := hf2 q
    refine hw_k (c := (-1 : Int)) (b := 0) (e := 1) (by decide +kernel) ?_
    exact hw_ret (a0 := 0) (e := 0) (by decide +kernel) (Or.inl rfl) H
theorem sf_239_192 {sc : List Int} {d : Nat} {φ : hf_F} {x : Nat} {Q : Option jm_V → hf_F → Nat → Prop} {v1 : Int} (hI : Inv φ) (h1a : (-2147483648 : Int) ≤ v1) (h1b : v1 ≤ 2147483647) (hQ : ∀ (r : Int) (ψ : hf_F), Inv ψ → Fr [193000] φ ψ → True → F_RideLawsModel_able_192 φ v1 = (r, ψ) → Q (some (0, r)) ψ x) : hw sc (d + 2) 239 0 [(0, (2, 192)), (1, (0, v1))] [] φ x Q := by
  apply sf_239_192_v
  have e0 : F_RideLawsModel_able_192 φ v1 = _ := rfl
  have i1 : Inv (hf_up φ 192 0 0) := iv_up (lo := 0) (u := 1) hI (by decide +kernel) (by omega) (by omega)
  have r1 : Fr [193000] φ (hf_up φ 192 0 0) := fr_up (fr_rf) (by decide)
  refine sf_211_192 (φ := (hf_up φ 192 0 0)) i1 (by omega) (by omega) (fun z1 hp1 hE1 => ⟨rfl, rfl, z1, rfl, ?_⟩)
  have e1 := e0.trans (bnp_e hE1)
  have f2 : (hf_up φ 192 0 0) 194 4 = φ 194 4 := (hf_up_ne (fun q => absurd q.1 (by decide)))
  have f3 := iv_at (a := 194) (k := 4) (lo := 0) (u := 8) hI (by decide +kernel)
  refine ⟨by unfold hi; omega, fun q2 => ?_, fun q2 => ?_⟩
  · skip
    have e2a := e1.trans (if_pos q2)
    exact sf_239_192_l19 ((6 - 0 : Int).toNat + 1) (hf_up φ 192 0 0) (jm_st1 (jm_st1 [(0, (2, 192)), (1, (0, v1))] 2 (0, 0)) 3 (0, 0)) v1 0 0 (get_st1 (get_st1 rfl (by decide) (fun q => absurd q.1 (by decide))) (by decide) (fun q => absurd q.1 (by decide))) (get_st1 (get_st1 rfl (by decide) (fun q => tg0 q.2)) (by decide) (fun q => absurd q.1 (by decide))) (get_st1 get_st1e (by decide) (fun q => tg0 q.2)) get_st1e i1 (by omega) (by omega) (by omega) (by omega) (by omega) (by omega) (by omega) (fun rr χ hIχ hFχ hpχ hEχ => hQ rr χ hIχ (fr_tr r1 hFχ (by decide)) hpχ (e2a.trans hEχ))
  · skip
    have e2b := e1.trans (if_neg q2)
    exact hQ (-1 : Int) (hf_up φ 192 0 0) i1 r1 trivial e2b
theorem sf_197_v {sc : List Int} {d : Nat} {φ : hf_F} {x : Nat} {Q : Option jm_V → hf_F → Nat → Prop} {v0 v1 : Int}
    (H : hi (hb_and (hb_shr v0 v1) 1) ∧ hi 1 ∧ (¬ (hb_and (hb_shr v0 v1) 1) = 1 → Q (some (0, 0)) φ x) ∧ (¬ (¬ (hb_and (hb_shr v0 v1) 1) = 1) → Q (some (0, 1)) φ x)) :
    hw sc d 197 0 [(0, (0, v0)), (1, (0, v1))] [] φ x Q := by
  refine hw_ld (b := 0) (e := 0) (by decide +kernel) rfl ?_
  refine hw_ld (b := 1) (e := 0) (by decide +kernel) rfl ?_
  refine hw_bin (w := hb_shr v0 v1) (a0 := 0) (b := 7) (e := 0) (by decide +kernel) rfl ?_
  refine hw_k (c := 1) (b := 0) (e := 1) (by decide +kernel) ?_
  refine hw_bin (w := hb_and (hb_shr v0 v1) 1) (a0 := 0) (b := 3) (e := 0) (by decide +kernel) rfl ?_
  refine hw_k (c := 1) (b := 0) (e := 1) (by decide +kernel) ?_
  obtain ⟨hz1, hy1, ht1, hf1⟩ := H
  refine hw_if2 (a0 := 0) (b := 1) (e := 13) (by decide +kernel) hz1 hy1 (fun q => ?_) (fun q => ?_)
  · have H := ht1 q
    refine hw_k (c := 0) (b := 0) (e := 1) (by decide +kernel) ?_
    exact hw_ret (a0 := 0) (e := 1) (by decide +kernel) (Or.inr ⟨rfl, by decide⟩) H
  · have H := hf1 q
    refine hw_k (c := 1) (b := 0) (e := 1) (by decide +kernel) ?_
    refine hw_goto (a0 := 0) (b := 0) (e := 14) (by decide +kernel) ?_
    exact hw_ret (a0 := 0) (e := 1) (by decide +kernel) (Or.inr ⟨rfl, by decide⟩) H
theorem sf_197 {sc : List Int} {d : Nat} {φ : hf_F} {x : Nat} {Q : Option jm_V → hf_F → Nat → Prop} {v0 v1 : Int} (hI : Inv φ)  (hQ : ∀ (r : Int), 0 ≤ r ∧ r ≤ 1 ∧ (v0 = 0 → r = 0) → F_RideLawsModel_bitOf φ v0 v1 = r → Q (some (0, r)) φ x) : hw sc d 197 0 [(0, (0, v0)), (1, (0, v1))] [] φ x Q := by
  apply sf_197_v
  have e0 : F_RideLawsModel_bitOf φ v0 v1 = _ := rfl
  have f1 := hr_shr0 v0 v1
  have f2 := hr_shr v0 v1
  have f3 := hr_and0 (hb_shr v0 v1) 1
  have f4 := hr_and1 (hb_shr v0 v1)
  have f5 := hr_and (hb_shr v0 v1) 1
  refine ⟨by unfold hi; omega, by unfold hi; omega, fun q1 => ?_, fun q1 => ?_⟩
  · skip
    have e1a := e0.trans (if_pos q1)
    exact hQ 0 ⟨by omega, by omega, by omega⟩ e1a
  · skip
    have e1b := e0.trans (if_neg q1)
    exact hQ 1 ⟨by omega, by omega, by omega⟩ e1b
theorem sf_242_192_v4 {sc : List Int} {d : Nat} {φ : hf_F} {x : Nat} {Q : Option jm_V → hf_F → Nat → Prop} {L : jm_L} {l1 l2 l3 : Int} (g0 : jm_get L 0 = some (2, 192)) (g1 : jm_get L 1 = some (0, l1)) (g2 : jm_get L 2 = some (0, l2)) (g3 : jm_get L 3 = some (0, l3))
    (H : hi l3 ∧ hi (φ 194 3) ∧ ((φ 194 3) ≤ l3 → Q (some (0, l2)) φ x) ∧ (¬ (φ 194 3) ≤ l3 → hw sc d 197 0 [(0, (0, l1)), (1, (0, l3))] [] φ x (fun r ψ3 y3 => y3 = x ∧ φ = ψ3 ∧ (∃ z3 : Int, r = some (0, z3) ∧ (hi z3 ∧ (z3 = 0 → hw sc (d + 1) 242 4 (jm_st1 (jm_st1 L 2 (0, hb_or l2 0)) 3 (0, l3 + 1)) [] φ x Q) ∧ (¬ z3 = 0 → hw sc d 205 0 [(0, (2, 192)), (1, (0, l3))] [] φ x (fun r ψ5 y5 => y5 = x ∧ φ = ψ5 ∧ (∃ z5 : Int, r = some (0, z5) ∧ (hw sc (d + 1) 242 4 (jm_st1 (jm_st1 L 2 (0, hb_or l2 z5)) 3 (0, l3 + 1)) [] φ x Q))))))))) :
    hw sc (d + 1) 242 4 L [] φ x Q := by
  refine hw_ld (b := 3) (e := 0) (by decide +kernel) g3 ?_
  refine hw_ald (b := 0) (e := 0) (by decide +kernel) g0 (by decide) ?_
  refine hr_gr (w := 194) (b := 12) (e := 6) 192 rfl (by decide +kernel) ?_
  refine hw_k (c := 3) (b := 0) (e := 1) (by decide +kernel) ?_
  refine hr_al (b := 0) (a0 := 0) (e := 0) (n := 361) (w := φ 194 3) 194 rfl (by decide +kernel) (by decide) (by decide) (by decide) rfl ?_
  obtain ⟨hz1, hy1, ht1, hf1⟩ := H
  refine hw_if2 (a0 := 0) (b := 3) (e := 40) (by decide +kernel) hz1 hy1 (fun q => ?_) (fun q => ?_)
  · have H := ht1 q
    refine hw_ld (b := 2) (e := 0) (by decide +kernel) g2 ?_
    exact hw_ret (a0 := 0) (e := 0) (by decide +kernel) (Or.inl rfl) H
  · have H := hf1 q
    refine hw_ld (b := 2) (e := 0) (by decide +kernel) g2 ?_
    refine hw_ld (b := 1) (e := 0) (by decide +kernel) g1 ?_
    refine hw_ld (b := 3) (e := 0) (by decide +kernel) g3 ?_
    refine hr_calls (b := 197) (e := 2) (nl := 2) (As := [(0, l1), (0, l3)]) (R := [(0, l2)]) (by decide +kernel) rfl rfl (Nat.le_of_ble_eq_true rfl) (Nat.le_of_ble_eq_true rfl) ?_
    refine hw_mono H ?_
    rintro r ψ3 y3 ⟨hyx, hψx, z3, hr, H⟩
    subst hyx
    subst hψx
    subst hr
    refine ⟨hne0, ?_⟩
    show hw sc (d + 1) 242 20 L [(0, z3), (0, l2)] φ y3 Q
    obtain ⟨hz4, ht4, hf4⟩ := H
    refine hw_if (a0 := 0) (b := 0) (e := 31) (by decide +kernel) hz4 (fun q => ?_) (fun q => ?_)
    · have H := ht4 q
      refine hw_k (c := 0) (b := 0) (e := 1) (by decide +kernel) ?_
      refine hw_bin (w := hb_or l2 0) (a0 := 0) (b := 4) (e := 0) (by decide +kernel) rfl ?_
      refine hw_st (L' := (jm_st1 L 2 (0, hb_or l2 0))) (b := 2) (e := 0) (by decide +kernel) rfl ?_
      refine hw_inc (L' := (jm_st1 (jm_st1 L 2 (0, hb_or l2 0)) 3 (0, l3 + 1))) (c := 1) (b := 3) (e := 0) (by decide +kernel) (get_st1 g3 (by decide) (fun q => absurd q.1 (by decide))) rfl ?_
      refine hw_goto (a0 := 0) (b := 0) (e := 4) (by decide +kernel) ?_
      exact H
    · have H := hf4 q
      refine hw_ald (b := 0) (e := 0) (by decide +kernel) g0 (by decide) ?_
      refine hw_ld (b := 3) (e := 0) (by decide +kernel) g3 ?_
      refine hr_call (a0 := 22) (b := 205) (e := 2) (nl := 4) (As := [(0, l3)]) (R := [(0, l2)]) 192 rfl (by decide +kernel) rfl rfl (Nat.le_of_ble_eq_true rfl) (Nat.le_of_ble_eq_true rfl) ?_
      refine hw_mono H ?_
      rintro r ψ5 y5 ⟨hyx, hψx, z5, hr, H⟩
      subst hyx
      subst hψx
      subst hr
      refine ⟨hne0, ?_⟩
      show hw sc (d + 1) 242 28 L [(0, z5), (0, l2)] φ y5 Q
      refine hw_goto (a0 := 0) (b := 0) (e := 32) (by decide +kernel) ?_
      refine hw_bin (w := hb_or l2 z5) (a0 := 0) (b := 4) (e := 0) (by decide +kernel) rfl ?_
      refine hw_st (L' := (jm_st1 L 2 (0, hb_or l2 z5))) (b := 2) (e := 0) (by decide +kernel) rfl ?_
      refine hw_inc (L' := (jm_st1 (jm_st1 L 2 (0, hb_or l2 z5)) 3 (0, l3 + 1))) (c := 1) (b := 3) (e := 0) (by decide +kernel) (get_st1 g3 (by decide) (fun q => absurd q.1 (by decide))) rfl ?_
      refine hw_goto (a0 := 0) (b := 0) (e := 4) (by decide +kernel) ?_
      exact H
theorem sf_242_192_l4 {sc : List Int} {d x : Nat} {Q : Option jm_V → hf_F → Nat → Prop} : ∀ (n : Nat) (φ : hf_F) (L : jm_L) (l1 l2 l3 : Int), jm_get L 0 = some (2, 192) → jm_get L 1 = some (0, l1) → jm_get L 2 = some (0, l2) → jm_get L 3 = some (0, l3) → Inv φ → 6 - l3 < (n : Int) → (-2147483648 : Int) ≤ l1 → l1 ≤ 2147483647 → (-2147483648 : Int) ≤ l2 → l2 ≤ 2147483647 → 0 ≤ l3 → l3 ≤ 6 → (∀ (r : Int), True → F_RideLawsModel_knownToAll_192_l4 n φ l1 l2 l3 = r → Q (some (0, r)) φ x) → hw sc (d + 1) 242 4 L [] φ x Q := by
  intro n
  induction n with
  | zero =>
    intro φ L l1 l2 l3 g0 g1 g2 g3 hI hM b1a b1b b2a b2b b3a b3b hQ
    exfalso
    omega
  | succ n ih =>
    intro φ L l1 l2 l3 g0 g1 g2 g3 hI hM b1a b1b b2a b2b b3a b3b hQ
    refine sf_242_192_v4 g0 g1 g2 g3 ?_
    have e0 := F_RideLawsModel_knownToAll_192_l4_s (φ := φ) (l1 := l1) (l2 := l2) (l3 := l3) n
    have f1 := iv_at (a := 194) (k := 3) (lo := 0) (u := 6) hI (by decide +kernel)
    refine ⟨by unfold hi; omega, by unfold hi; omega, fun q1 => ?_, fun q1 => ?_⟩
    · skip
      have e1a := e0.trans (if_pos q1)
      exact hQ l2 trivial e1a
    · skip
      have e1b := e0.trans (if_neg q1)
      refine sf_197 (φ := φ) hI  (fun z3 hp3 hE3 => ⟨rfl, rfl, z3, rfl, ?_⟩)
      have e3 := e1b.trans (bnp_e hE3)
      refine ⟨by unfold hi; omega, fun q4 => ?_, fun q4 => ?_⟩
      · skip
        have e4a := e3.trans (if_pos q4)
        have f2 := hr_or l2 0
        exact ih φ (jm_st1 (jm_st1 L 2 (0, hb_or l2 0)) 3 (0, l3 + 1)) l1 (hb_or l2 0) (l3 + 1) (get_st1 (get_st1 g0 (by decide) (fun q => absurd q.1 (by decide))) (by decide) (fun q => absurd q.1 (by decide))) (get_st1 (get_st1 g1 (by decide) (fun q => tg0 q.2)) (by decide) (fun q => absurd q.1 (by decide))) (get_st1 get_st1e (by decide) (fun q => tg0 q.2)) get_st1e hI (by omega) (by omega) (by omega) (by omega) (by omega) (by omega) (by omega) (fun rr hpχ hEχ => hQ rr hpχ (e4a.trans hEχ))
      · skip
        have e4b := e3.trans (if_neg q4)
        refine sf_205_192 (φ := φ) hI (by omega) (by omega) (fun z5 hp5 hE5 => ⟨rfl, rfl, z5, rfl, ?_⟩)
        have e5 := e4b.trans (bnp_e hE5)
        have f3 := hr_or l2 z5
        exact ih φ (jm_st1 (jm_st1 L 2 (0, hb_or l2 z5)) 3 (0, l3 + 1)) l1 (hb_or l2 z5) (l3 + 1) (get_st1 (get_st1 g0 (by decide) (fun q => absurd q.1 (by decide))) (by decide) (fun q => absurd q.1 (by decide))) (get_st1 (get_st1 g1 (by decide) (fun q => tg0 q.2)) (by decide) (fun q => absurd q.1 (by decide))) (get_st1 get_st1e (by decide) (fun q => tg0 q.2)) get_st1e hI (by omega) (by omega) (by omega) (by omega) (by omega) (by omega) (by omega) (fun rr hpχ hEχ => hQ rr hpχ (e5.trans hEχ))
theorem sf_242_192_v {sc : List Int} {d : Nat} {φ : hf_F} {x : Nat} {Q : Option jm_V → hf_F → Nat → Prop} {v1 : Int}
    (H : hw sc (d + 1) 242 4 (jm_st1 (jm_st1 [(0, (2, 192)), (1, (0, v1))] 2 (0, 0)) 3 (0, 0)) [] φ x Q) :
    hw sc (d + 1) 242 0 [(0, (2, 192)), (1, (0, v1))] [] φ x Q := by
  refine hw_k (c := 0) (b := 0) (e := 1) (by decide +kernel) ?_
  refine hw_st (L' := (jm_st1 [(0, (2, 192)), (1, (0, v1))] 2 (0, 0))) (b := 2) (e := 0) (by decide +kernel) rfl ?_
  refine hw_k (c := 0) (b := 0) (e := 1) (by decide +kernel) ?_
  refine hw_st (L' := (jm_st1 (jm_st1 [(0, (2, 192)), (1, (0, v1))] 2 (0, 0)) 3 (0, 0))) (b := 3) (e := 0) (by decide +kernel) rfl ?_
  exact H
theorem sf_242_192 {sc : List Int} {d : Nat} {φ : hf_F} {x : Nat} {Q : Option jm_V → hf_F → Nat → Prop} {v1 : Int} (hI : Inv φ) (h1a : (-2147483648 : Int) ≤ v1) (h1b : v1 ≤ 2147483647) (hQ : ∀ (r : Int), True → F_RideLawsModel_knownToAll_192 φ v1 = r → Q (some (0, r)) φ x) : hw sc (d + 1) 242 0 [(0, (2, 192)), (1, (0, v1))] [] φ x Q := by
  apply sf_242_192_v
  have e0 : F_RideLawsModel_knownToAll_192 φ v1 = _ := rfl
  exact sf_242_192_l4 ((6 - 0 : Int).toNat + 1) φ (jm_st1 (jm_st1 [(0, (2, 192)), (1, (0, v1))] 2 (0, 0)) 3 (0, 0)) v1 0 0 (get_st1 (get_st1 rfl (by decide) (fun q => absurd q.1 (by decide))) (by decide) (fun q => absurd q.1 (by decide))) (get_st1 (get_st1 rfl (by decide) (fun q => tg0 q.2)) (by decide) (fun q => absurd q.1 (by decide))) (get_st1 get_st1e (by decide) (fun q => tg0 q.2)) get_st1e hI (by omega) (by omega) (by omega) (by omega) (by omega) (by omega) (by omega) (fun rr hpχ hEχ => hQ rr hpχ (e0.trans hEχ))
theorem sf_275_192_v {sc : List Int} {d : Nat} {φ : hf_F} {x : Nat} {Q : Option jm_V → hf_F → Nat → Prop} {v1 : Int}
    (H : hi v1 ∧ hi 5 ∧ (¬ v1 = 5 → hw sc d 188 0 [(0, (0, v1)), (1, (0, 0)), (2, (0, 4))] [] (hf_up φ 192 0 0) x (fun r ψ2 y2 => y2 = x ∧ (hf_up φ 192 0 0) = ψ2 ∧ (∃ z2 : Int, r = some (0, z2) ∧ (hi z2 ∧ (z2 = 0 → Q (some (0, (-1 : Int))) (hf_up φ 192 0 0) x) ∧ (¬ z2 = 0 → 0 ≤ v1 ∧ v1 < 361 ∧ (Q (some (0, φ 194 ((v1).toNat))) (hf_up φ 192 0 0) x)))))) ∧ (¬ (¬ v1 = 5) → Q (some (0, φ 192 2)) (hf_up φ 192 0 0) x)) :
    hw sc (d + 1) 275 0 [(0, (2, 192)), (1, (0, v1))] [] φ x Q := by
  refine hw_ald (b := 0) (e := 0) (by decide +kernel) rfl (by decide) ?_
  refine hw_k (c := 0) (b := 0) (e := 1) (by decide +kernel) ?_
  refine hr_pi (b := 12) (e := 0) 192 rfl (by decide +kernel) ?_
  refine hw_ld (b := 1) (e := 0) (by decide +kernel) rfl ?_
  refine hw_k (c := 5) (b := 0) (e := 1) (by decide +kernel) ?_
  obtain ⟨hz1, hy1, ht1, hf1⟩ := H
  refine hw_if2 (a0 := 0) (b := 1) (e := 17) (by decide +kernel) hz1 hy1 (fun q => ?_) (fun q => ?_)
  · have H := ht1 q
    refine hw_ld (b := 1) (e := 0) (by decide +kernel) rfl ?_
    refine hw_k (c := 0) (b := 0) (e := 1) (by decide +kernel) ?_
    refine hw_k (c := 4) (b := 0) (e := 1) (by decide +kernel) ?_
    refine hr_calls (b := 188) (e := 3) (nl := 3) (As := [(0, v1), (0, 0), (0, 4)]) (R := []) (by decide +kernel) rfl rfl (Nat.le_of_ble_eq_true rfl) (Nat.le_of_ble_eq_true rfl) ?_
    refine hw_mono H ?_
    rintro r ψ2 y2 ⟨hyx, hψx, z2, hr, H⟩
    subst hyx
    subst hψx
    subst hr
    refine ⟨hne0, ?_⟩
    show hw sc (d + 1) 275 23 [(0, (2, 192)), (1, (0, v1))] [(0, z2)] (hf_up φ 192 0 0) y2 Q
    obtain ⟨hz3, ht3, hf3⟩ := H
    refine hw_if (a0 := 0) (b := 0) (e := 35) (by decide +kernel) hz3 (fun q => ?_) (fun q => ?_)
    · have H := ht3 q
      refine hw_k (c := (-1 : Int)) (b := 0) (e := 1) (by decide +kernel) ?_
      exact hw_ret (a0 := 0) (e := 0) (by decide +kernel) (Or.inl rfl) H
    · have H := hf3 q
      refine hw_ald (b := 0) (e := 0) (by decide +kernel) rfl (by decide) ?_
      refine hr_gr (w := 194) (b := 12) (e := 6) 192 rfl (by decide +kernel) ?_
      refine hw_ld (b := 1) (e := 0) (by decide +kernel) rfl ?_
      obtain ⟨hl5, hu5, H⟩ := H
      refine hr_al (b := 0) (a0 := 0) (e := 0) (n := 361) (w := φ 194 ((v1).toNat)) 194 rfl (by decide +kernel) (by decide) hl5 hu5 (hf_up_ne (fun q => absurd q.1 (by decide))) ?_
      refine hw_goto (a0 := 0) (b := 0) (e := 36) (by decide +kernel) ?_
      exact hw_ret (a0 := 0) (e := 0) (by decide +kernel) (Or.inl rfl) H
  · have H := hf1 q
    refine hw_ald (b := 0) (e := 0) (by decide +kernel) rfl (by decide) ?_
    refine hr_gi (w := φ 192 2) (b := 12) (e := 2) 192 rfl (by decide +kernel) (hf_up_ne (fun q => absurd q.2 (by decide))) ?_
    refine hw_goto (a0 := 0) (b := 0) (e := 36) (by decide +kernel) ?_
    exact hw_ret (a0 := 0) (e := 0) (by decide +kernel) (Or.inl rfl) H
theorem sf_275_192 {sc : List Int} {d : Nat} {φ : hf_F} {x : Nat} {Q : Option jm_V → hf_F → Nat → Prop} {v1 : Int} (hI : Inv φ) (h1a : (-2147483648 : Int) ≤ v1) (h1b : v1 ≤ 2147483647) (hQ : ∀ (r : Int) (ψ : hf_F), Inv ψ → Fr [193000] φ ψ → True → F_RideLawsModel_count_192 φ v1 = (r, ψ) → Q (some (0, r)) ψ x) : hw sc (d + 1) 275 0 [(0, (2, 192)), (1, (0, v1))] [] φ x Q := by
  apply sf_275_192_v
  have e0 : F_RideLawsModel_count_192 φ v1 = _ := rfl
  have i1 : Inv (hf_up φ 192 0 0) := iv_up (lo := 0) (u := 1) hI (by decide +kernel) (by omega) (by omega)
  have r1 : Fr [193000] φ (hf_up φ 192 0 0) := fr_up (fr_rf) (by decide)
  refine ⟨by unfold hi; omega, by unfold hi; omega, fun q1 => ?_, fun q1 => ?_⟩
  · skip
    have e1a := e0.trans (if_pos q1)
    refine sf_188 (φ := (hf_up φ 192 0 0)) i1 (by omega) (by omega) (by omega) (by omega) (by omega) (by omega) (fun z2 hp2 hE2 => ⟨rfl, rfl, z2, rfl, ?_⟩)
    have e2 := e1a.trans (bnp_e hE2)
    refine ⟨by unfold hi; omega, fun q3 => ?_, fun q3 => ?_⟩
    · skip
      have e3a := e2.trans (if_pos q3)
      exact hQ (-1 : Int) (hf_up φ 192 0 0) i1 r1 trivial e3a
    · skip
      have e3b := e2.trans (if_neg q3)
      refine ⟨by omega, by omega, ?_⟩
      exact hQ (φ 194 ((v1).toNat)) (hf_up φ 192 0 0) i1 r1 trivial e3b
  · skip
    have e1b := e0.trans (if_neg q1)
    have f2 := iv_at (a := 192) (k := 2) (lo := 0) (u := 940) hI (by decide +kernel)
    exact hQ (φ 192 2) (hf_up φ 192 0 0) i1 r1 trivial e1b
