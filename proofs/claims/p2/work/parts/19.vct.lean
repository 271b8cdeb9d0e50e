theorem vc_now {sc : List Int} {d : Nat} {φ : hf_F} {x : Nat} {Q : Option jm_V → hf_F → Nat → Prop} {k : Int}
    (H : hi k ∧ (k = 0 → Q (some (0, φ 17 0)) φ x) ∧ (k = 1 → Q (some (0, φ 17 1)) φ x) ∧ (k = 2 → Q (some (0, φ 17 2)) φ x) ∧ (k = 3 → Q (some (0, φ 17 3)) φ x) ∧ (k = 4 → Q (some (0, φ 17 4)) φ x) ∧ (k = 5 → hw sc d 76 0 [(0, (2, 0))] [] φ x (fun r ψ2 y2 => ∃ z2 : Int, r = some (0, z2) ∧ (Q (some (0, z2)) ψ2 y2))) ∧ (k = 6 → hw sc d 77 0 [(0, (2, 0))] [] φ x (fun r ψ3 y3 => ∃ z3 : Int, r = some (0, z3) ∧ (Q (some (0, z3)) ψ3 y3))) ∧ (k = 7 → Q (some (0, φ 17 5)) φ x) ∧ ((k < 0 ∨ 8 ≤ k) → Q (some (0, (-1))) φ x)) :
    hw sc (d + 1) 75 0 [(0, (2, 0)), (1, (0, k))] [] φ x Q := by
  refine hw_ld (b := 1) (e := 0) (by decide +kernel) rfl ?_
  obtain ⟨hz1, H⟩ := H
  refine hr_tsw (T := [48, 59, 70, 81, 92, 103, 108, 113]) (lo := 0) (nn := 8) (b := 124) (e := 3) (by decide +kernel) rfl hz1 ?_ ?_
  · intro q
    have H := H.2.2.2.2.2.2.2.2 q
    refine hw_k (c := (-1)) (b := 0) (e := 1) (by decide +kernel) ?_
    exact hw_ret (a0 := 0) (e := 0) (by decide +kernel) (Or.inl rfl) H
  · intro kq tq htq hzq
    match kq, htq, hzq with
    | 0, htq, hzq =>
      cases htq
      have H := H.1 (by omega)
      refine hw_ald (b := 0) (e := 0) (by decide +kernel) rfl (by decide) ?_
      refine hr_gr (w := 4) (b := 0) (e := 1) 0 rfl (by decide +kernel) ?_
      refine hr_gr (w := 17) (b := 2) (e := 1) 4 rfl (by decide +kernel) ?_
      refine hr_gi (w := φ 17 0) (b := 4) (e := 0) 17 rfl (by decide +kernel) rfl ?_
      exact hw_ret (a0 := 0) (e := 0) (by decide +kernel) (Or.inl rfl) H
    | 1, htq, hzq =>
      cases htq
      have H := H.2.1 (by omega)
      refine hw_ald (b := 0) (e := 0) (by decide +kernel) rfl (by decide) ?_
      refine hr_gr (w := 4) (b := 0) (e := 1) 0 rfl (by decide +kernel) ?_
      refine hr_gr (w := 17) (b := 2) (e := 1) 4 rfl (by decide +kernel) ?_
      refine hr_gi (w := φ 17 1) (b := 4) (e := 1) 17 rfl (by decide +kernel) rfl ?_
      exact hw_ret (a0 := 0) (e := 0) (by decide +kernel) (Or.inl rfl) H
    | 2, htq, hzq =>
      cases htq
      have H := H.2.2.1 (by omega)
      refine hw_ald (b := 0) (e := 0) (by decide +kernel) rfl (by decide) ?_
      refine hr_gr (w := 4) (b := 0) (e := 1) 0 rfl (by decide +kernel) ?_
      refine hr_gr (w := 17) (b := 2) (e := 1) 4 rfl (by decide +kernel) ?_
      refine hr_gi (w := φ 17 2) (b := 4) (e := 2) 17 rfl (by decide +kernel) rfl ?_
      exact hw_ret (a0 := 0) (e := 0) (by decide +kernel) (Or.inl rfl) H
    | 3, htq, hzq =>
      cases htq
      have H := H.2.2.2.1 (by omega)
      refine hw_ald (b := 0) (e := 0) (by decide +kernel) rfl (by decide) ?_
      refine hr_gr (w := 4) (b := 0) (e := 1) 0 rfl (by decide +kernel) ?_
      refine hr_gr (w := 17) (b := 2) (e := 1) 4 rfl (by decide +kernel) ?_
      refine hr_gi (w := φ 17 3) (b := 4) (e := 3) 17 rfl (by decide +kernel) rfl ?_
      exact hw_ret (a0 := 0) (e := 0) (by decide +kernel) (Or.inl rfl) H
    | 4, htq, hzq =>
      cases htq
      have H := H.2.2.2.2.1 (by omega)
      refine hw_ald (b := 0) (e := 0) (by decide +kernel) rfl (by decide) ?_
      refine hr_gr (w := 4) (b := 0) (e := 1) 0 rfl (by decide +kernel) ?_
      refine hr_gr (w := 17) (b := 2) (e := 1) 4 rfl (by decide +kernel) ?_
      refine hr_gi (w := φ 17 4) (b := 4) (e := 4) 17 rfl (by decide +kernel) rfl ?_
      exact hw_ret (a0 := 0) (e := 0) (by decide +kernel) (Or.inl rfl) H
    | 5, htq, hzq =>
      cases htq
      have H := H.2.2.2.2.2.1 (by omega)
      refine hw_ald (b := 0) (e := 0) (by decide +kernel) rfl (by decide) ?_
      refine hr_call (a0 := 10) (b := 76) (e := 1) (nl := 3) (As := []) (R := []) 0 rfl (by decide +kernel) rfl rfl (Nat.le_of_ble_eq_true rfl) (Nat.le_of_ble_eq_true rfl) ?_
      refine hw_mono H ?_
      rintro r ψ2 y2 ⟨z2, hr, H⟩
      subst hr
      refine ⟨hne0, ?_⟩
      show hw sc (d + 1) 75 107 [(0, (2, 0)), (1, (0, k))] [(0, z2)] ψ2 y2 Q
      exact hw_ret (a0 := 0) (e := 0) (by decide +kernel) (Or.inl rfl) H
    | 6, htq, hzq =>
      cases htq
      have H := H.2.2.2.2.2.2.1 (by omega)
      refine hw_ald (b := 0) (e := 0) (by decide +kernel) rfl (by decide) ?_
      refine hr_call (a0 := 10) (b := 77) (e := 1) (nl := 3) (As := []) (R := []) 0 rfl (by decide +kernel) rfl rfl (Nat.le_of_ble_eq_true rfl) (Nat.le_of_ble_eq_true rfl) ?_
      refine hw_mono H ?_
      rintro r ψ3 y3 ⟨z3, hr, H⟩
      subst hr
      refine ⟨hne0, ?_⟩
      show hw sc (d + 1) 75 112 [(0, (2, 0)), (1, (0, k))] [(0, z3)] ψ3 y3 Q
      exact hw_ret (a0 := 0) (e := 0) (by decide +kernel) (Or.inl rfl) H
    | 7, htq, hzq =>
      cases htq
      have H := H.2.2.2.2.2.2.2.1 (by omega)
      refine hw_ald (b := 0) (e := 0) (by decide +kernel) rfl (by decide) ?_
      refine hr_gr (w := 4) (b := 0) (e := 1) 0 rfl (by decide +kernel) ?_
      refine hr_gr (w := 17) (b := 2) (e := 1) 4 rfl (by decide +kernel) ?_
      refine hr_gi (w := φ 17 5) (b := 4) (e := 5) 17 rfl (by decide +kernel) rfl ?_
      exact hw_ret (a0 := 0) (e := 0) (by decide +kernel) (Or.inl rfl) H
    | kq + 8, htq, _ => cases htq
