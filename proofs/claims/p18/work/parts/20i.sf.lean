theorem sf_193_192_v63 {sc : List Int} {d : Nat} {φ : hf_F} {x : Nat} {Q : Option jm_V → hf_F → Nat → Prop} {L : jm_L} {l1 l2 : Int} (g0 : jm_get L 0 = some (2, 192)) (g1 : jm_get L 1 = some (0, l1)) (g2 : jm_get L 2 = some (0, l2))
    (H : hi l2 ∧ hi l1 ∧ (l1 ≤ l2 → 0 ≤ (27 + l1) ∧ (27 + l1) < 99 ∧ (hw sc (d + 2) 175 0 [(0, (2, 192))] [] (hf_up φ 195 ((27 + l1).toNat) ((φ 192 18) + 1)) x (fun r ψ3 y3 => y3 = x ∧ (r = none ∧ (Q (some (0, 1)) (hf_up ψ3 195 3 ((ψ3 195 3) + 1)) x))))) ∧ (¬ l1 ≤ l2 → 0 ≤ (27 + l2) ∧ (27 + l2) < 99 ∧ (hi (φ 195 ((27 + l2).toNat)) ∧ hi ((φ 192 18) + 1) ∧ (¬ (φ 195 ((27 + l2).toNat)) = ((φ 192 18) + 1) → hw sc (d + 3) 193 63 (jm_st1 L 2 (0, l2 + 1)) [] φ x Q) ∧ (¬ (¬ (φ 195 ((27 + l2).toNat)) = ((φ 192 18) + 1)) → hw sc (d + 2) 182 0 [(0, (2, 192)), (1, (0, 3))] [] φ x (fun r ψ7 y7 => y7 = x ∧ (∃ z7 : Int, r = some (0, z7) ∧ ((z7 = 0 ∨ z7 = 1) ∧ Q (some (0, z7)) ψ7 x))))))) :
    hw sc (d + 3) 193 63 L [] φ x Q := by
  refine hw_ld (b := 2) (e := 0) (by decide +kernel) g2 ?_
  refine hw_ld (b := 1) (e := 0) (by decide +kernel) g1 ?_
  obtain ⟨hz1, hy1, ht1, hf1⟩ := H
  refine hw_if2 (a0 := 0) (b := 3) (e := 98) (by decide +kernel) hz1 hy1 (fun q => ?_) (fun q => ?_)
  · have H := ht1 q
    refine hw_ald (b := 0) (e := 0) (by decide +kernel) g0 (by decide) ?_
    refine hr_gr (w := 195) (b := 12) (e := 7) 192 rfl (by decide +kernel) ?_
    refine hw_k (c := 27) (b := 1) (e := 2) (by decide +kernel) ?_
    refine hw_ld (b := 1) (e := 0) (by decide +kernel) g1 ?_
    refine hw_bin (w := 27 + l1) (a0 := 0) (b := 0) (e := 0) (by decide +kernel) rfl ?_
    refine hw_ald (b := 0) (e := 0) (by decide +kernel) g0 (by decide) ?_
    refine hr_gi (w := φ 192 18) (b := 12) (e := 18) 192 rfl (by decide +kernel) rfl ?_
    refine hw_k (c := 1) (b := 0) (e := 1) (by decide +kernel) ?_
    refine hw_bin (w := (φ 192 18) + 1) (a0 := 0) (b := 0) (e := 0) (by decide +kernel) rfl ?_
    obtain ⟨hl2, hu2, H⟩ := H
    refine hr_as (a0 := 0) (e := 4) (n := 99) 195 rfl (by decide +kernel) hl2 hu2 ?_
    refine hw_ald (b := 0) (e := 0) (by decide +kernel) g0 (by decide) ?_
    refine hr_call (a0 := 22) (b := 175) (e := 1) (nl := 4) (As := []) (R := []) 192 rfl (by decide +kernel) rfl rfl (Nat.le_of_ble_eq_true rfl) (Nat.le_of_ble_eq_true rfl) ?_
    refine hw_mono H ?_
    rintro r ψ3 y3 ⟨hyx, hr, H⟩
    subst hyx
    subst hr
    refine ⟨hnen, ?_⟩
    show hw sc (d + 3) 193 117 L [] ψ3 y3 Q
    refine hw_ald (b := 0) (e := 0) (by decide +kernel) g0 (by decide) ?_
    refine hr_gr (w := 195) (b := 12) (e := 7) 192 rfl (by decide +kernel) ?_
    refine hw_k (c := 3) (b := 0) (e := 1) (by decide +kernel) ?_
    refine hw_dup2 (a0 := 0) (e := 0) (by decide +kernel) (by decide) (by decide) ?_
    refine hr_al (b := 0) (a0 := 0) (e := 0) (n := 99) (w := ψ3 195 3) 195 rfl (by decide +kernel) (by decide) (by decide) (by decide) rfl ?_
    refine hw_k (c := 1) (b := 0) (e := 1) (by decide +kernel) ?_
    refine hw_bin (w := (ψ3 195 3) + 1) (a0 := 0) (b := 0) (e := 0) (by decide +kernel) rfl ?_
    refine hr_as (a0 := 0) (e := 4) (n := 99) 195 rfl (by decide +kernel) (by decide) (by decide) ?_
    refine hw_k (c := 1) (b := 0) (e := 1) (by decide +kernel) ?_
    exact hw_ret (a0 := 0) (e := 1) (by decide +kernel) (Or.inr ⟨rfl, by decide⟩) H
  · have H := hf1 q
    refine hw_ald (b := 0) (e := 0) (by decide +kernel) g0 (by decide) ?_
    refine hr_gr (w := 195) (b := 12) (e := 7) 192 rfl (by decide +kernel) ?_
    refine hw_k (c := 27) (b := 1) (e := 2) (by decide +kernel) ?_
    refine hw_ld (b := 2) (e := 0) (by decide +kernel) g2 ?_
    refine hw_bin (w := 27 + l2) (a0 := 0) (b := 0) (e := 0) (by decide +kernel) rfl ?_
    obtain ⟨hl5, hu5, H⟩ := H
    refine hr_al (b := 0) (a0 := 0) (e := 0) (n := 99) (w := φ 195 ((27 + l2).toNat)) 195 rfl (by decide +kernel) (by decide) hl5 hu5 rfl ?_
    refine hw_ald (b := 0) (e := 0) (by decide +kernel) g0 (by decide) ?_
    refine hr_gi (w := φ 192 18) (b := 12) (e := 18) 192 rfl (by decide +kernel) rfl ?_
    refine hw_k (c := 1) (b := 0) (e := 1) (by decide +kernel) ?_
    refine hw_bin (w := (φ 192 18) + 1) (a0 := 0) (b := 0) (e := 0) (by decide +kernel) rfl ?_
    obtain ⟨hz6, hy6, ht6, hf6⟩ := H
    refine hw_if2 (a0 := 0) (b := 1) (e := 92) (by decide +kernel) hz6 hy6 (fun q => ?_) (fun q => ?_)
    · have H := ht6 q
      refine hw_inc (L' := (jm_st1 L 2 (0, l2 + 1))) (c := 1) (b := 2) (e := 0) (by decide +kernel) g2 rfl ?_
      refine hw_goto (a0 := 0) (b := 0) (e := 63) (by decide +kernel) ?_
      exact H
    · have H := hf6 q
      refine hw_ald (b := 0) (e := 0) (by decide +kernel) g0 (by decide) ?_
      refine hw_k (c := 3) (b := 0) (e := 1) (by decide +kernel) ?_
      refine hr_call (a0 := 22) (b := 182) (e := 2) (nl := 2) (As := [(0, 3)]) (R := []) 192 rfl (by decide +kernel) rfl rfl (Nat.le_of_ble_eq_true rfl) (Nat.le_of_ble_eq_true rfl) ?_
      refine hw_mono H ?_
      rintro r ψ7 y7 ⟨hyx, z7, hr, H⟩
      subst hyx
      subst hr
      refine ⟨hne0, ?_⟩
      show hw sc (d + 3) 193 91 L [(0, z7)] ψ7 y7 Q
      exact hw_ret (a0 := 0) (e := 1) (by decide +kernel) (Or.inr ⟨rfl, H.1⟩) H.2
theorem sf_193_192_l63 {sc : List Int} {d x : Nat} {Q : Option jm_V → hf_F → Nat → Prop} : ∀ (n : Nat) (φ : hf_F) (L : jm_L) (l1 l2 : Int), jm_get L 0 = some (2, 192) → jm_get L 1 = some (0, l1) → jm_get L 2 = some (0, l2) → Inv φ → 6 - l2 < (n : Int) → 0 ≤ l1 → l1 ≤ 5 → 0 ≤ l2 → l2 ≤ 6 → l1 = φ 195 3 → 0 ≤ φ 192 18 → φ 192 18 ≤ 7 → (∀ (r : Int) (ψ : hf_F), Inv ψ → Fr [195, 197, 193004, 193011, 193012, 193013, 193014, 193015, 193016, 193017, 193018] φ ψ → 0 ≤ r ∧ r ≤ 1 ∧ (φ 192 4 ≤ ψ 192 4 ∧ (r = 1 → ψ 192 11 = 3 → φ 192 4 < ψ 192 4)) → F_RideLawsModel_readRider_192_l63 n φ l1 l2 = (r, ψ) → Q (some (0, r)) ψ x) → hw sc (d + 3) 193 63 L [] φ x Q := by
  intro n
  induction n with
  | zero =>
    intro φ L l1 l2 g0 g1 g2 hI hM b1a b1b b2a b2b c0 c1 c2 hQ
    exfalso
    omega
  | succ n ih =>
    intro φ L l1 l2 g0 g1 g2 hI hM b1a b1b b2a b2b c0 c1 c2 hQ
    refine sf_193_192_v63 g0 g1 g2 ?_
    have e0 := F_RideLawsModel_readRider_192_l63_s (φ := φ) (l1 := l1) (l2 := l2) n
    refine ⟨by unfold hi; omega, by unfold hi; omega, fun q1 => ?_, fun q1 => ?_⟩
    · skip
      have e1a := e0.trans (if_pos q1)
      have f1 := iv_at (a := 192) (k := 18) (lo := (-1 : Int)) (u := 999) hI (by decide +kernel)
      refine ⟨by omega, by omega, ?_⟩
      have i2 : Inv (hf_up φ 195 ((27 + l1).toNat) ((φ 192 18) + 1)) := iv_upI (s := 27) (t := 33) (lo := 0) (u := 8) (z := 27 + l1) hI (by decide +kernel) (by omega) (by omega) (by omega) (by omega)
      have r2 : Fr [195, 197, 193004, 193011, 193012, 193013, 193014, 193015, 193016, 193017, 193018] φ (hf_up φ 195 ((27 + l1).toNat) ((φ 192 18) + 1)) := fr_upa (fr_rf) (by decide)
      refine sf_175_192 (φ := (hf_up φ 195 ((27 + l1).toNat) ((φ 192 18) + 1))) i2  (fun ψ3 hI3 hF3 hV3 hE3 => ⟨rfl, rfl, ?_⟩)
      have hG3 : Fr [195, 197, 193004, 193011, 193012, 193013, 193014, 193015, 193016, 193017, 193018] φ ψ3 := fr_tr r2 hF3 (by decide)
      have f3 : (hf_up φ 195 ((27 + l1).toNat) ((φ 192 18) + 1)) 192 18 = φ 192 18 := (hf_up_ne (fun q => absurd q.1 (by decide)))
      have f4 : (hf_up φ 195 ((27 + l1).toNat) ((φ 192 18) + 1)) 192 30 = φ 192 30 := (hf_up_ne (fun q => absurd q.1 (by decide)))
      have f5 := iv_at (a := 192) (k := 30) (lo := 0) (u := 40) hI (by decide +kernel)
      have f6 : (hf_up φ 195 ((27 + l1).toNat) ((φ 192 18) + 1)) 192 34 = φ 192 34 := (hf_up_ne (fun q => absurd q.1 (by decide)))
      have f7 := iv_at (a := 192) (k := 34) (lo := 0) (u := 45) hI (by decide +kernel)
      have f8 : (hf_up φ 195 ((27 + l1).toNat) ((φ 192 18) + 1)) 192 35 = φ 192 35 := (hf_up_ne (fun q => absurd q.1 (by decide)))
      have f9 := iv_at (a := 192) (k := 35) (lo := 0) (u := 20) hI (by decide +kernel)
      have f10 : (hf_up φ 195 ((27 + l1).toNat) ((φ 192 18) + 1)) 192 36 = φ 192 36 := (hf_up_ne (fun q => absurd q.1 (by decide)))
      have f11 := iv_at (a := 192) (k := 36) (lo := 0) (u := 45) hI (by decide +kernel)
      have f12 : (hf_up φ 195 ((27 + l1).toNat) ((φ 192 18) + 1)) 192 38 = φ 192 38 := (hf_up_ne (fun q => absurd q.1 (by decide)))
      have f13 := iv_at (a := 192) (k := 38) (lo := 0) (u := 1) hI (by decide +kernel)
      have f14 : (hf_up φ 195 ((27 + l1).toNat) ((φ 192 18) + 1)) 192 4 = φ 192 4 := (hf_up_ne (fun q => absurd q.1 (by decide)))
      have f15 := iv_at (a := 192) (k := 4) (lo := 0) (u := 940) hI (by decide +kernel)
      have f16 := iv_at (a := 192) (k := 11) (lo := 0) (u := 4) hI3 (by decide +kernel)
      have f17 := iv_at (a := 192) (k := 18) (lo := (-1 : Int)) (u := 999) hI3 (by decide +kernel)
      have f18 : ψ3 192 18 = φ 192 18 := (fr_fd hF3 192 18 (by decide)).trans (hf_up_ne (fun q => absurd q.1 (by decide)))
      have f19 := iv_at (a := 192) (k := 30) (lo := 0) (u := 40) hI3 (by decide +kernel)
      have f20 : ψ3 192 30 = φ 192 30 := (fr_fd hF3 192 30 (by decide)).trans (hf_up_ne (fun q => absurd q.1 (by decide)))
      have f21 := iv_at (a := 192) (k := 34) (lo := 0) (u := 45) hI3 (by decide +kernel)
      have f22 : ψ3 192 34 = φ 192 34 := (fr_fd hF3 192 34 (by decide)).trans (hf_up_ne (fun q => absurd q.1 (by decide)))
      have f23 := iv_at (a := 192) (k := 35) (lo := 0) (u := 20) hI3 (by decide +kernel)
      have f24 : ψ3 192 35 = φ 192 35 := (fr_fd hF3 192 35 (by decide)).trans (hf_up_ne (fun q => absurd q.1 (by decide)))
      have f25 := iv_at (a := 192) (k := 36) (lo := 0) (u := 45) hI3 (by decide +kernel)
      have f26 : ψ3 192 36 = φ 192 36 := (fr_fd hF3 192 36 (by decide)).trans (hf_up_ne (fun q => absurd q.1 (by decide)))
      have f27 := iv_at (a := 192) (k := 38) (lo := 0) (u := 1) hI3 (by decide +kernel)
      have f28 : ψ3 192 38 = φ 192 38 := (fr_fd hF3 192 38 (by decide)).trans (hf_up_ne (fun q => absurd q.1 (by decide)))
      have f29 := iv_at (a := 192) (k := 4) (lo := 0) (u := 940) hI3 (by decide +kernel)
      have e3 := e1a.trans (bnv_e hE3)
      have f30 := iv_at (a := 195) (k := 3) (lo := 0) (u := 6) hI3 (by decide +kernel)
      have f31 : ψ3 195 3 = φ 195 3 := (fr_at hF3 195 (by decide) 3).trans (hf_up_ne (fun q => absurd q.2 (by omega)))
      have f32 := iv_at (a := 195) (k := 3) (lo := 0) (u := 6) i2 (by decide +kernel)
      have i33 : Inv (hf_up ψ3 195 3 ((ψ3 195 3) + 1)) := iv_up (lo := 0) (u := 6) hI3 (by decide +kernel) (by omega) (by omega)
      have r33 : Fr [195, 197, 193004, 193011, 193012, 193013, 193014, 193015, 193016, 193017, 193018] φ (hf_up ψ3 195 3 ((ψ3 195 3) + 1)) := fr_upa hG3 (by decide)
      have f34 : (hf_up ψ3 195 3 ((ψ3 195 3) + 1)) 192 11 = ψ3 192 11 := (hf_up_ne (fun q => absurd q.1 (by decide)))
      have f35 : (hf_up ψ3 195 3 ((ψ3 195 3) + 1)) 192 4 = ψ3 192 4 := (hf_up_ne (fun q => absurd q.1 (by decide)))
      exact hQ 1 (hf_up ψ3 195 3 ((ψ3 195 3) + 1)) i33 r33 ⟨by omega, by omega, by omega⟩ e3
    · skip
      have e1b := e0.trans (if_neg q1)
      refine ⟨by omega, by omega, ?_⟩
      have f36 := iv_ar (a := 195) (s := 27) (t := 33) (lo := 0) (u := 8) (z := 27 + l2) hI (by decide +kernel) (by omega) (by omega)
      have f37 := iv_at (a := 192) (k := 18) (lo := (-1 : Int)) (u := 999) hI (by decide +kernel)
      refine ⟨by unfold hi; omega, by unfold hi; omega, fun q6 => ?_, fun q6 => ?_⟩
      · skip
        have e6a := e1b.trans (if_pos q6)
        have f38 := iv_at (a := 192) (k := 4) (lo := 0) (u := 940) hI (by decide +kernel)
        have f39 := iv_at (a := 195) (k := 3) (lo := 0) (u := 6) hI (by decide +kernel)
        exact ih φ (jm_st1 L 2 (0, l2 + 1)) l1 (l2 + 1) (get_st1 g0 (by decide) (fun q => absurd q.1 (by decide))) (get_st1 g1 (by decide) (fun q => tg0 q.2)) get_st1e hI (by omega) (by omega) (by omega) (by omega) (by omega) (by omega) (by omega) (by omega) (fun rr χ hIχ hFχ hpχ hEχ => hQ rr χ hIχ (fr_tr (fr_rf) hFχ (by decide)) (by omega) (e6a.trans hEχ))
      · skip
        have e6b := e1b.trans (if_neg q6)
        refine sf_182_192 (φ := φ) hI (by omega) (by omega) (fun z7 ψ7 hI7 hF7 hp7 hE7 => ⟨rfl, z7, rfl, ?_⟩)
        have hG7 : Fr [195, 197, 193004, 193011, 193012, 193013, 193014, 193015, 193016, 193017, 193018] φ ψ7 := fr_tr (fr_rf) hF7 (by decide)
        have f40 := iv_at (a := 192) (k := 30) (lo := 0) (u := 40) hI (by decide +kernel)
        have f41 := iv_at (a := 192) (k := 4) (lo := 0) (u := 940) hI (by decide +kernel)
        have f42 := iv_at (a := 192) (k := 30) (lo := 0) (u := 40) hI7 (by decide +kernel)
        have f43 : ψ7 192 30 = φ 192 30 := (fr_fd hF7 192 30 (by decide))
        have f44 := iv_at (a := 192) (k := 4) (lo := 0) (u := 940) hI7 (by decide +kernel)
        have f45 : ψ7 192 4 = φ 192 4 := (fr_fd hF7 192 4 (by decide))
        have e7 := e6b.trans (bnd_e hE7)
        have f46 := iv_at (a := 192) (k := 11) (lo := 0) (u := 4) hI7 (by decide +kernel)
        have f47 : ψ7 192 11 = φ 192 11 := (fr_fd hF7 192 11 (by decide))
        have f48 := iv_at (a := 192) (k := 11) (lo := 0) (u := 4) hI (by decide +kernel)
        refine ⟨by omega, ?_⟩
        exact hQ z7 ψ7 hI7 hG7 ⟨by omega, by omega, by omega⟩ e7
theorem sf_193_192_v {sc : List Int} {d : Nat} {φ : hf_F} {x : Nat} {Q : Option jm_V → hf_F → Nat → Prop} 
    (H : hi (φ 195 3) ∧ hi 6 ∧ (¬ (φ 195 3) = 6 → hw sc (d + 2) 175 0 [(0, (2, 192))] [] φ x (fun r ψ2 y2 => y2 = x ∧ (r = none ∧ (hw sc (d + 2) 183 0 [(0, (2, 192)), (1, (0, 52 + (φ 195 3)))] [] ψ2 x (fun r ψ3 y3 => y3 = x ∧ (∃ z3 : Int, r = some (0, z3) ∧ (hi z3 ∧ (¬ z3 = 0 → hi (ψ3 192 11) ∧ hi 1 ∧ (¬ (ψ3 192 11) = 1 → Q (some (0, 1)) (hf_up ψ3 195 3 ((ψ3 195 3) + 1)) x) ∧ (¬ (¬ (ψ3 192 11) = 1) → hw sc (d + 2) 191 0 [(0, (2, 192)), (1, (0, 36)), (2, (0, ψ3 195 1))] [] ψ3 x (fun r ψ7 y7 => y7 = x ∧ (∃ z7 : Int, r = some (0, z7) ∧ (hi z7 ∧ (¬ z7 = 0 → hw sc (d + 3) 193 63 (jm_st1 (jm_st1 [(0, (2, 192))] 1 (0, φ 195 3)) 2 (0, 0)) [] ψ7 x Q) ∧ (¬ (¬ z7 = 0) → Q (some (0, 0)) ψ7 x)))))) ∧ (¬ (¬ z3 = 0) → Q (some (0, 0)) ψ3 x)))))))) ∧ (¬ (¬ (φ 195 3) = 6) → hw sc (d + 2) 182 0 [(0, (2, 192)), (1, (0, 4))] [] φ x (fun r ψ11 y11 => y11 = x ∧ (∃ z11 : Int, r = some (0, z11) ∧ ((z11 = 0 ∨ z11 = 1) ∧ Q (some (0, z11)) ψ11 x))))) :
    hw sc (d + 3) 193 0 [(0, (2, 192))] [] φ x Q := by
  refine hw_ald (b := 0) (e := 0) (by decide +kernel) rfl (by decide) ?_
  refine hr_gr (w := 195) (b := 12) (e := 7) 192 rfl (by decide +kernel) ?_
  refine hw_k (c := 3) (b := 0) (e := 1) (by decide +kernel) ?_
  refine hr_al (b := 0) (a0 := 0) (e := 0) (n := 99) (w := φ 195 3) 195 rfl (by decide +kernel) (by decide) (by decide) (by decide) rfl ?_
  refine hw_st (L' := (jm_st1 [(0, (2, 192))] 1 (0, φ 195 3))) (b := 1) (e := 0) (by decide +kernel) rfl ?_
  refine hw_ld (b := 1) (e := 0) (by decide +kernel) get_st1e ?_
  refine hw_k (c := 6) (b := 1) (e := 2) (by decide +kernel) ?_
  obtain ⟨hz1, hy1, ht1, hf1⟩ := H
  refine hw_if2 (a0 := 0) (b := 1) (e := 19) (by decide +kernel) hz1 hy1 (fun q => ?_) (fun q => ?_)
  · have H := ht1 q
    refine hw_ald (b := 0) (e := 0) (by decide +kernel) (get_st1 rfl (by decide) (fun q => tg2 q.2)) (by decide) ?_
    refine hr_call (a0 := 22) (b := 175) (e := 1) (nl := 4) (As := []) (R := []) 192 rfl (by decide +kernel) rfl rfl (Nat.le_of_ble_eq_true rfl) (Nat.le_of_ble_eq_true rfl) ?_
    refine hw_mono H ?_
    rintro r ψ2 y2 ⟨hyx, hr, H⟩
    subst hyx
    subst hr
    refine ⟨hnen, ?_⟩
    show hw sc (d + 3) 193 23 (jm_st1 [(0, (2, 192))] 1 (0, φ 195 3)) [] ψ2 y2 Q
    refine hw_ald (b := 0) (e := 0) (by decide +kernel) (get_st1 rfl (by decide) (fun q => tg2 q.2)) (by decide) ?_
    refine hw_k (c := 52) (b := 1) (e := 2) (by decide +kernel) ?_
    refine hw_ld (b := 1) (e := 0) (by decide +kernel) get_st1e ?_
    refine hw_bin (w := 52 + (φ 195 3)) (a0 := 0) (b := 0) (e := 0) (by decide +kernel) rfl ?_
    refine hr_call (a0 := 22) (b := 183) (e := 2) (nl := 2) (As := [(0, 52 + (φ 195 3))]) (R := []) 192 rfl (by decide +kernel) rfl rfl (Nat.le_of_ble_eq_true rfl) (Nat.le_of_ble_eq_true rfl) ?_
    refine hw_mono H ?_
    rintro r ψ3 y3 ⟨hyx, z3, hr, H⟩
    subst hyx
    subst hr
    refine ⟨hne0, ?_⟩
    show hw sc (d + 3) 193 31 (jm_st1 [(0, (2, 192))] 1 (0, φ 195 3)) [(0, z3)] ψ3 y3 Q
    obtain ⟨hz4, ht4, hf4⟩ := H
    refine hw_if (a0 := 0) (b := 1) (e := 36) (by decide +kernel) hz4 (fun q => ?_) (fun q => ?_)
    · have H := ht4 q
      refine hw_ald (b := 0) (e := 0) (by decide +kernel) (get_st1 rfl (by decide) (fun q => tg2 q.2)) (by decide) ?_
      refine hr_gi (w := ψ3 192 11) (b := 12) (e := 11) 192 rfl (by decide +kernel) rfl ?_
      refine hw_k (c := 1) (b := 0) (e := 1) (by decide +kernel) ?_
      obtain ⟨hz5, hy5, ht5, hf5⟩ := H
      refine hw_if2 (a0 := 0) (b := 1) (e := 117) (by decide +kernel) hz5 hy5 (fun q => ?_) (fun q => ?_)
      · have H := ht5 q
        refine hw_ald (b := 0) (e := 0) (by decide +kernel) (get_st1 rfl (by decide) (fun q => tg2 q.2)) (by decide) ?_
        refine hr_gr (w := 195) (b := 12) (e := 7) 192 rfl (by decide +kernel) ?_
        refine hw_k (c := 3) (b := 0) (e := 1) (by decide +kernel) ?_
        refine hw_dup2 (a0 := 0) (e := 0) (by decide +kernel) (by decide) (by decide) ?_
        refine hr_al (b := 0) (a0 := 0) (e := 0) (n := 99) (w := ψ3 195 3) 195 rfl (by decide +kernel) (by decide) (by decide) (by decide) rfl ?_
        refine hw_k (c := 1) (b := 0) (e := 1) (by decide +kernel) ?_
        refine hw_bin (w := (ψ3 195 3) + 1) (a0 := 0) (b := 0) (e := 0) (by decide +kernel) rfl ?_
        refine hr_as (a0 := 0) (e := 4) (n := 99) 195 rfl (by decide +kernel) (by decide) (by decide) ?_
        refine hw_k (c := 1) (b := 0) (e := 1) (by decide +kernel) ?_
        exact hw_ret (a0 := 0) (e := 1) (by decide +kernel) (Or.inr ⟨rfl, by decide⟩) H
      · have H := hf5 q
        refine hw_ald (b := 0) (e := 0) (by decide +kernel) (get_st1 rfl (by decide) (fun q => tg2 q.2)) (by decide) ?_
        refine hw_k (c := 36) (b := 1) (e := 2) (by decide +kernel) ?_
        refine hw_ald (b := 0) (e := 0) (by decide +kernel) (get_st1 rfl (by decide) (fun q => tg2 q.2)) (by decide) ?_
        refine hr_gr (w := 195) (b := 12) (e := 7) 192 rfl (by decide +kernel) ?_
        refine hw_k (c := 1) (b := 0) (e := 1) (by decide +kernel) ?_
        refine hr_al (b := 0) (a0 := 0) (e := 0) (n := 99) (w := ψ3 195 1) 195 rfl (by decide +kernel) (by decide) (by decide) (by decide) rfl ?_
        refine hr_call (a0 := 22) (b := 191) (e := 3) (nl := 3) (As := [(0, 36), (0, ψ3 195 1)]) (R := []) 192 rfl (by decide +kernel) rfl rfl (Nat.le_of_ble_eq_true rfl) (Nat.le_of_ble_eq_true rfl) ?_
        refine hw_mono H ?_
        rintro r ψ7 y7 ⟨hyx, z7, hr, H⟩
        subst hyx
        subst hr
        refine ⟨hne0, ?_⟩
        show hw sc (d + 3) 193 56 (jm_st1 [(0, (2, 192))] 1 (0, φ 195 3)) [(0, z7)] ψ7 y7 Q
        obtain ⟨hz8, ht8, hf8⟩ := H
        refine hw_if (a0 := 0) (b := 1) (e := 61) (by decide +kernel) hz8 (fun q => ?_) (fun q => ?_)
        · have H := ht8 q
          refine hw_k (c := 0) (b := 0) (e := 1) (by decide +kernel) ?_
          refine hw_st (L' := (jm_st1 (jm_st1 [(0, (2, 192))] 1 (0, φ 195 3)) 2 (0, 0))) (b := 2) (e := 0) (by decide +kernel) rfl ?_
          exact H
        · have H := hf8 q
          refine hw_k (c := 0) (b := 0) (e := 1) (by decide +kernel) ?_
          exact hw_ret (a0 := 0) (e := 1) (by decide +kernel) (Or.inr ⟨rfl, by decide⟩) H
    · have H := hf4 q
      refine hw_k (c := 0) (b := 0) (e := 1) (by decide +kernel) ?_
      exact hw_ret (a0 := 0) (e := 1) (by decide +kernel) (Or.inr ⟨rfl, by decide⟩) H
  · have H := hf1 q
    refine hw_ald (b := 0) (e := 0) (by decide +kernel) (get_st1 rfl (by decide) (fun q => tg2 q.2)) (by decide) ?_
    refine hw_k (c := 4) (b := 0) (e := 1) (by decide +kernel) ?_
    refine hr_call (a0 := 22) (b := 182) (e := 2) (nl := 2) (As := [(0, 4)]) (R := []) 192 rfl (by decide +kernel) rfl rfl (Nat.le_of_ble_eq_true rfl) (Nat.le_of_ble_eq_true rfl) ?_
    refine hw_mono H ?_
    rintro r ψ11 y11 ⟨hyx, z11, hr, H⟩
    subst hyx
    subst hr
    refine ⟨hne0, ?_⟩
    show hw sc (d + 3) 193 18 (jm_st1 [(0, (2, 192))] 1 (0, φ 195 3)) [(0, z11)] ψ11 y11 Q
    exact hw_ret (a0 := 0) (e := 1) (by decide +kernel) (Or.inr ⟨rfl, H.1⟩) H.2
theorem sf_193_192 {sc : List Int} {d : Nat} {φ : hf_F} {x : Nat} {Q : Option jm_V → hf_F → Nat → Prop}  (hI : Inv φ)  (hQ : ∀ (r : Int) (ψ : hf_F), Inv ψ → Fr [195, 197, 193004, 193011, 193012, 193013, 193014, 193015, 193016, 193017, 193018] φ ψ → 0 ≤ r ∧ r ≤ 1 ∧ (φ 192 4 ≤ ψ 192 4 ∧ (r = 1 → ψ 192 11 = 3 → φ 192 4 < ψ 192 4)) → F_RideLawsModel_readRider_192 φ = (r, ψ) → Q (some (0, r)) ψ x) : hw sc (d + 3) 193 0 [(0, (2, 192))] [] φ x Q := by
  apply sf_193_192_v
  have e0 : F_RideLawsModel_readRider_192 φ = _ := rfl
  have f1 := iv_at (a := 195) (k := 3) (lo := 0) (u := 6) hI (by decide +kernel)
  refine ⟨by unfold hi; omega, by unfold hi; omega, fun q1 => ?_, fun q1 => ?_⟩
  · skip
    have e1a := e0.trans (if_pos q1)
    refine sf_175_192 (φ := φ) hI  (fun ψ2 hI2 hF2 hV2 hE2 => ⟨rfl, rfl, ?_⟩)
    have hG2 : Fr [195, 197, 193004, 193011, 193012, 193013, 193014, 193015, 193016, 193017, 193018] φ ψ2 := fr_tr (fr_rf) hF2 (by decide)
    have f2 := iv_at (a := 192) (k := 18) (lo := (-1 : Int)) (u := 999) hI (by decide +kernel)
    have f3 := iv_at (a := 192) (k := 30) (lo := 0) (u := 40) hI (by decide +kernel)
    have f4 := iv_at (a := 192) (k := 34) (lo := 0) (u := 45) hI (by decide +kernel)
    have f5 := iv_at (a := 192) (k := 35) (lo := 0) (u := 20) hI (by decide +kernel)
    have f6 := iv_at (a := 192) (k := 36) (lo := 0) (u := 45) hI (by decide +kernel)
    have f7 := iv_at (a := 192) (k := 38) (lo := 0) (u := 1) hI (by decide +kernel)
    have f8 := iv_at (a := 192) (k := 4) (lo := 0) (u := 940) hI (by decide +kernel)
    have f9 := iv_at (a := 192) (k := 11) (lo := 0) (u := 4) hI2 (by decide +kernel)
    have f10 := iv_at (a := 192) (k := 18) (lo := (-1 : Int)) (u := 999) hI2 (by decide +kernel)
    have f11 : ψ2 192 18 = φ 192 18 := (fr_fd hF2 192 18 (by decide))
    have f12 := iv_at (a := 192) (k := 30) (lo := 0) (u := 40) hI2 (by decide +kernel)
    have f13 : ψ2 192 30 = φ 192 30 := (fr_fd hF2 192 30 (by decide))
    have f14 := iv_at (a := 192) (k := 34) (lo := 0) (u := 45) hI2 (by decide +kernel)
    have f15 : ψ2 192 34 = φ 192 34 := (fr_fd hF2 192 34 (by decide))
    have f16 := iv_at (a := 192) (k := 35) (lo := 0) (u := 20) hI2 (by decide +kernel)
    have f17 : ψ2 192 35 = φ 192 35 := (fr_fd hF2 192 35 (by decide))
    have f18 := iv_at (a := 192) (k := 36) (lo := 0) (u := 45) hI2 (by decide +kernel)
    have f19 : ψ2 192 36 = φ 192 36 := (fr_fd hF2 192 36 (by decide))
    have f20 := iv_at (a := 192) (k := 38) (lo := 0) (u := 1) hI2 (by decide +kernel)
    have f21 : ψ2 192 38 = φ 192 38 := (fr_fd hF2 192 38 (by decide))
    have f22 := iv_at (a := 192) (k := 4) (lo := 0) (u := 940) hI2 (by decide +kernel)
    have e2 := e1a.trans (bnv_e hE2)
    refine sf_183_192 (φ := ψ2) hI2 (by omega) (by omega) (fun z3 ψ3 hI3 hF3 hp3 hE3 => ⟨rfl, z3, rfl, ?_⟩)
    have hG3 : Fr [195, 197, 193004, 193011, 193012, 193013, 193014, 193015, 193016, 193017, 193018] φ ψ3 := fr_tr hG2 hF3 (by decide)
    have f23 := iv_at (a := 192) (k := 11) (lo := 0) (u := 4) hI3 (by decide +kernel)
    have f24 := iv_at (a := 192) (k := 4) (lo := 0) (u := 940) hI3 (by decide +kernel)
    have e3 := e2.trans (bnd_e hE3)
    refine ⟨by unfold hi; omega, fun q4 => ?_, fun q4 => ?_⟩
    · skip
      have e4a := e3.trans (if_pos q4)
      refine ⟨by unfold hi; omega, by unfold hi; omega, fun q5 => ?_, fun q5 => ?_⟩
      · skip
        have e5a := e4a.trans (if_pos q5)
        have f25 := iv_at (a := 195) (k := 3) (lo := 0) (u := 6) hI3 (by decide +kernel)
        have f26 : ψ3 195 3 = ψ2 195 3 := (fr_at hF3 195 (by decide) 3)
        have f27 := iv_at (a := 195) (k := 3) (lo := 0) (u := 6) hI2 (by decide +kernel)
        have f28 : ψ2 195 3 = φ 195 3 := (fr_at hF2 195 (by decide) 3)
        have i29 : Inv (hf_up ψ3 195 3 ((ψ3 195 3) + 1)) := iv_up (lo := 0) (u := 6) hI3 (by decide +kernel) (by omega) (by omega)
        have r29 : Fr [195, 197, 193004, 193011, 193012, 193013, 193014, 193015, 193016, 193017, 193018] φ (hf_up ψ3 195 3 ((ψ3 195 3) + 1)) := fr_upa hG3 (by decide)
        have f30 : (hf_up ψ3 195 3 ((ψ3 195 3) + 1)) 192 11 = ψ3 192 11 := (hf_up_ne (fun q => absurd q.1 (by decide)))
        have f31 : (hf_up ψ3 195 3 ((ψ3 195 3) + 1)) 192 4 = ψ3 192 4 := (hf_up_ne (fun q => absurd q.1 (by decide)))
        exact hQ 1 (hf_up ψ3 195 3 ((ψ3 195 3) + 1)) i29 r29 ⟨by omega, by omega, by omega⟩ e5a
      · skip
        have e5b := e4a.trans (if_neg q5)
        have f32 := iv_at (a := 195) (k := 1) (lo := 0) (u := 8) hI3 (by decide +kernel)
        have f33 : ψ3 195 1 = ψ2 195 1 := (fr_at hF3 195 (by decide) 1)
        have f34 := iv_at (a := 195) (k := 1) (lo := 0) (u := 8) hI2 (by decide +kernel)
        have f35 : ψ2 195 1 = φ 195 1 := (fr_at hF2 195 (by decide) 1)
        have f36 := iv_at (a := 195) (k := 1) (lo := 0) (u := 8) hI (by decide +kernel)
        refine sf_191_192 (φ := ψ3) hI3 (by omega) (by omega) (by omega) (by omega) (by omega) (fun z7 ψ7 hI7 hF7 hp7 hE7 => ⟨rfl, z7, rfl, ?_⟩)
        have hG7 : Fr [195, 197, 193004, 193011, 193012, 193013, 193014, 193015, 193016, 193017, 193018] φ ψ7 := fr_tr hG3 hF7 (by decide)
        have f37 := iv_at (a := 192) (k := 30) (lo := 0) (u := 40) hI3 (by decide +kernel)
        have f38 : ψ3 192 30 = ψ2 192 30 := (fr_fd hF3 192 30 (by decide))
        have f39 := iv_at (a := 192) (k := 34) (lo := 0) (u := 45) hI3 (by decide +kernel)
        have f40 : ψ3 192 34 = ψ2 192 34 := (fr_fd hF3 192 34 (by decide))
        have f41 := iv_at (a := 192) (k := 35) (lo := 0) (u := 20) hI3 (by decide +kernel)
        have f42 : ψ3 192 35 = ψ2 192 35 := (fr_fd hF3 192 35 (by decide))
        have f43 := iv_at (a := 192) (k := 36) (lo := 0) (u := 45) hI3 (by decide +kernel)
        have f44 : ψ3 192 36 = ψ2 192 36 := (fr_fd hF3 192 36 (by decide))
        have f45 := iv_at (a := 192) (k := 38) (lo := 0) (u := 1) hI3 (by decide +kernel)
        have f46 : ψ3 192 38 = ψ2 192 38 := (fr_fd hF3 192 38 (by decide))
        have f47 := iv_at (a := 192) (k := 18) (lo := (-1 : Int)) (u := 999) hI7 (by decide +kernel)
        have f48 := iv_at (a := 192) (k := 30) (lo := 0) (u := 40) hI7 (by decide +kernel)
        have f49 : ψ7 192 30 = ψ3 192 30 := (fr_fd hF7 192 30 (by decide))
        have f50 := iv_at (a := 192) (k := 34) (lo := 0) (u := 45) hI7 (by decide +kernel)
        have f51 : ψ7 192 34 = ψ3 192 34 := (fr_fd hF7 192 34 (by decide))
        have f52 := iv_at (a := 192) (k := 35) (lo := 0) (u := 20) hI7 (by decide +kernel)
        have f53 : ψ7 192 35 = ψ3 192 35 := (fr_fd hF7 192 35 (by decide))
        have f54 := iv_at (a := 192) (k := 36) (lo := 0) (u := 45) hI7 (by decide +kernel)
        have f55 : ψ7 192 36 = ψ3 192 36 := (fr_fd hF7 192 36 (by decide))
        have f56 := iv_at (a := 192) (k := 38) (lo := 0) (u := 1) hI7 (by decide +kernel)
        have f57 : ψ7 192 38 = ψ3 192 38 := (fr_fd hF7 192 38 (by decide))
        have f58 := iv_at (a := 192) (k := 4) (lo := 0) (u := 940) hI7 (by decide +kernel)
        have f59 : ψ7 192 4 = ψ3 192 4 := (fr_fd hF7 192 4 (by decide))
        have e7 := e5b.trans (bnd_e hE7)
        refine ⟨by unfold hi; omega, fun q8 => ?_, fun q8 => ?_⟩
        · skip
          have e8a := e7.trans (if_pos q8)
          have f60 := iv_at (a := 195) (k := 3) (lo := 0) (u := 6) hI7 (by decide +kernel)
          have f61 : ψ7 195 3 = ψ3 195 3 := (fr_at hF7 195 (by decide) 3)
          have f62 := iv_at (a := 195) (k := 3) (lo := 0) (u := 6) hI3 (by decide +kernel)
          have f63 : ψ3 195 3 = ψ2 195 3 := (fr_at hF3 195 (by decide) 3)
          have f64 := iv_at (a := 195) (k := 3) (lo := 0) (u := 6) hI2 (by decide +kernel)
          have f65 : ψ2 195 3 = φ 195 3 := (fr_at hF2 195 (by decide) 3)
          exact sf_193_192_l63 ((6 - 0 : Int).toNat + 1) ψ7 (jm_st1 (jm_st1 [(0, (2, 192))] 1 (0, φ 195 3)) 2 (0, 0)) (φ 195 3) 0 (get_st1 (get_st1 rfl (by decide) (fun q => tg2 q.2)) (by decide) (fun q => absurd q.1 (by decide))) (get_st1 get_st1e (by decide) (fun q => tg0 q.2)) get_st1e hI7 (by omega) (by omega) (by omega) (by omega) (by omega) (by omega) (by omega) (by omega) (fun rr χ hIχ hFχ hpχ hEχ => hQ rr χ hIχ (fr_tr hG7 hFχ (by decide)) (by omega) (e8a.trans hEχ))
        · skip
          have e8b := e7.trans (if_neg q8)
          have f66 := iv_at (a := 192) (k := 11) (lo := 0) (u := 4) hI7 (by decide +kernel)
          have f67 : ψ7 192 11 = ψ3 192 11 := (fr_fd hF7 192 11 (by decide))
          exact hQ 0 ψ7 hI7 hG7 ⟨by omega, by omega, by omega⟩ e8b
    · skip
      have e4b := e3.trans (if_neg q4)
      exact hQ 0 ψ3 hI3 hG3 ⟨by omega, by omega, by omega⟩ e4b
  · skip
    have e1b := e0.trans (if_neg q1)
    refine sf_182_192 (φ := φ) hI (by omega) (by omega) (fun z11 ψ11 hI11 hF11 hp11 hE11 => ⟨rfl, z11, rfl, ?_⟩)
    have hG11 : Fr [195, 197, 193004, 193011, 193012, 193013, 193014, 193015, 193016, 193017, 193018] φ ψ11 := fr_tr (fr_rf) hF11 (by decide)
    have f68 := iv_at (a := 192) (k := 30) (lo := 0) (u := 40) hI (by decide +kernel)
    have f69 := iv_at (a := 192) (k := 4) (lo := 0) (u := 940) hI (by decide +kernel)
    have f70 := iv_at (a := 192) (k := 30) (lo := 0) (u := 40) hI11 (by decide +kernel)
    have f71 : ψ11 192 30 = φ 192 30 := (fr_fd hF11 192 30 (by decide))
    have f72 := iv_at (a := 192) (k := 4) (lo := 0) (u := 940) hI11 (by decide +kernel)
    have f73 : ψ11 192 4 = φ 192 4 := (fr_fd hF11 192 4 (by decide))
    have e11 := e1b.trans (bnd_e hE11)
    have f74 := iv_at (a := 192) (k := 11) (lo := 0) (u := 4) hI11 (by decide +kernel)
    have f75 : ψ11 192 11 = φ 192 11 := (fr_fd hF11 192 11 (by decide))
    have f76 := iv_at (a := 192) (k := 11) (lo := 0) (u := 4) hI (by decide +kernel)
    refine ⟨by omega, ?_⟩
    exact hQ z11 ψ11 hI11 hG11 ⟨by omega, by omega, by omega⟩ e11
theorem sf_194_192_v {sc : List Int} {d : Nat} {φ : hf_F} {x : Nat} {Q : Option jm_V → hf_F → Nat → Prop} 
    (H : hw sc (d + 2) 175 0 [(0, (2, 192))] [] φ x (fun r ψ1 y1 => y1 = x ∧ (r = none ∧ (hw sc (d + 2) 191 0 [(0, (2, 192)), (1, (0, 52)), (2, (0, ψ1 195 3))] [] ψ1 x (fun r ψ2 y2 => y2 = x ∧ (∃ z2 : Int, r = some (0, z2) ∧ (hi z2 ∧ (¬ z2 = 0 → 0 ≤ (33 + (ψ2 192 18)) ∧ (33 + (ψ2 192 18)) < 99 ∧ (hi (ψ2 195 ((33 + (ψ2 192 18)).toNat)) ∧ hi 6 ∧ (¬ (ψ2 195 ((33 + (ψ2 192 18)).toNat)) = 6 → hw sc (d + 2) 175 0 [(0, (2, 192))] [] ψ2 x (fun r ψ6 y6 => y6 = x ∧ (r = none ∧ (hw sc (d + 2) 190 0 [(0, (2, 192)), (1, (0, 44)), (2, (0, ψ6 195 2))] [] ψ6 x (fun r ψ7 y7 => y7 = x ∧ (∃ z7 : Int, r = some (0, z7) ∧ (hi z7 ∧ (¬ z7 = 0 → 0 ≤ ((39 + (6 * (ψ2 192 18))) + (ψ2 195 ((33 + (ψ2 192 18)).toNat))) ∧ ((39 + (6 * (ψ2 192 18))) + (ψ2 195 ((33 + (ψ2 192 18)).toNat))) < 99 ∧ (0 ≤ (33 + (ψ2 192 18)) ∧ (33 + (ψ2 192 18)) < 99 ∧ (0 ≤ (33 + (ψ2 192 18)) ∧ (33 + (ψ2 192 18)) < 99 ∧ (Q (some (0, 1)) (hf_up (hf_up ψ7 195 (((39 + (6 * (ψ2 192 18))) + (ψ2 195 ((33 + (ψ2 192 18)).toNat))).toNat) (ψ7 192 18)) 195 ((33 + (ψ2 192 18)).toNat) (((hf_up ψ7 195 (((39 + (6 * (ψ2 192 18))) + (ψ2 195 ((33 + (ψ2 192 18)).toNat))).toNat) (ψ7 192 18)) 195 ((33 + (ψ2 192 18)).toNat)) + 1)) x)))) ∧ (¬ (¬ z7 = 0) → Q (some (0, 0)) ψ7 x)))))))) ∧ (¬ (¬ (ψ2 195 ((33 + (ψ2 192 18)).toNat)) = 6) → hw sc (d + 2) 182 0 [(0, (2, 192)), (1, (0, 4))] [] ψ2 x (fun r ψ14 y14 => y14 = x ∧ (∃ z14 : Int, r = some (0, z14) ∧ ((z14 = 0 ∨ z14 = 1) ∧ Q (some (0, z14)) ψ14 x)))))) ∧ (¬ (¬ z2 = 0) → Q (some (0, 0)) ψ2 x)))))))) :
    hw sc (d + 3) 194 0 [(0, (2, 192))] [] φ x Q := by
  refine hw_ald (b := 0) (e := 0) (by decide +kernel) rfl (by decide) ?_
  refine hr_call (a0 := 22) (b := 175) (e := 1) (nl := 4) (As := []) (R := []) 192 rfl (by decide +kernel) rfl rfl (Nat.le_of_ble_eq_true rfl) (Nat.le_of_ble_eq_true rfl) ?_
  refine hw_mono H ?_
  rintro r ψ1 y1 ⟨hyx, hr, H⟩
  subst hyx
  subst hr
  refine ⟨hnen, ?_⟩
  show hw sc (d + 3) 194 4 [(0, (2, 192))] [] ψ1 y1 Q
  refine hw_ald (b := 0) (e := 0) (by decide +kernel) rfl (by decide) ?_
  refine hw_k (c := 52) (b := 1) (e := 2) (by decide +kernel) ?_
  refine hw_ald (b := 0) (e := 0) (by decide +kernel) rfl (by decide) ?_
  refine hr_gr (w := 195) (b := 12) (e := 7) 192 rfl (by decide +kernel) ?_
  refine hw_k (c := 3) (b := 0) (e := 1) (by decide +kernel) ?_
  refine hr_al (b := 0) (a0 := 0) (e := 0) (n := 99) (w := ψ1 195 3) 195 rfl (by decide +kernel) (by decide) (by decide) (by decide) rfl ?_
  refine hr_call (a0 := 22) (b := 191) (e := 3) (nl := 3) (As := [(0, 52), (0, ψ1 195 3)]) (R := []) 192 rfl (by decide +kernel) rfl rfl (Nat.le_of_ble_eq_true rfl) (Nat.le_of_ble_eq_true rfl) ?_
  refine hw_mono H ?_
  rintro r ψ2 y2 ⟨hyx, z2, hr, H⟩
  subst hyx
  subst hr
  refine ⟨hne0, ?_⟩
  show hw sc (d + 3) 194 16 [(0, (2, 192))] [(0, z2)] ψ2 y2 Q
  obtain ⟨hz3, ht3, hf3⟩ := H
  refine hw_if (a0 := 0) (b := 1) (e := 21) (by decide +kernel) hz3 (fun q => ?_) (fun q => ?_)
  · have H := ht3 q
    refine hw_ald (b := 0) (e := 0) (by decide +kernel) rfl (by decide) ?_
    refine hr_gi (w := ψ2 192 18) (b := 12) (e := 18) 192 rfl (by decide +kernel) rfl ?_
    refine hw_st (L' := (jm_st1 [(0, (2, 192))] 1 (0, ψ2 192 18))) (b := 1) (e := 0) (by decide +kernel) rfl ?_
    refine hw_ald (b := 0) (e := 0) (by decide +kernel) (get_st1 rfl (by decide) (fun q => tg2 q.2)) (by decide) ?_
    refine hr_gr (w := 195) (b := 12) (e := 7) 192 rfl (by decide +kernel) ?_
    refine hw_k (c := 33) (b := 1) (e := 2) (by decide +kernel) ?_
    refine hw_ld (b := 1) (e := 0) (by decide +kernel) get_st1e ?_
    refine hw_bin (w := 33 + (ψ2 192 18)) (a0 := 0) (b := 0) (e := 0) (by decide +kernel) rfl ?_
    obtain ⟨hl4, hu4, H⟩ := H
    refine hr_al (b := 0) (a0 := 0) (e := 0) (n := 99) (w := ψ2 195 ((33 + (ψ2 192 18)).toNat)) 195 rfl (by decide +kernel) (by decide) hl4 hu4 rfl ?_
    refine hw_st (L' := (jm_st1 (jm_st1 [(0, (2, 192))] 1 (0, ψ2 192 18)) 2 (0, ψ2 195 ((33 + (ψ2 192 18)).toNat)))) (b := 2) (e := 0) (by decide +kernel) rfl ?_
    refine hw_ld (b := 2) (e := 0) (by decide +kernel) get_st1e ?_
    refine hw_k (c := 6) (b := 1) (e := 2) (by decide +kernel) ?_
    obtain ⟨hz5, hy5, ht5, hf5⟩ := H
    refine hw_if2 (a0 := 0) (b := 1) (e := 48) (by decide +kernel) hz5 hy5 (fun q => ?_) (fun q => ?_)
    · have H := ht5 q
      refine hw_ald (b := 0) (e := 0) (by decide +kernel) (get_st1 (get_st1 rfl (by decide) (fun q => tg2 q.2)) (by decide) (fun q => absurd q.1 (by decide))) (by decide) ?_
      refine hr_call (a0 := 22) (b := 175) (e := 1) (nl := 4) (As := []) (R := []) 192 rfl (by decide +kernel) rfl rfl (Nat.le_of_ble_eq_true rfl) (Nat.le_of_ble_eq_true rfl) ?_
      refine hw_mono H ?_
      rintro r ψ6 y6 ⟨hyx, hr, H⟩
      subst hyx
      subst hr
      refine ⟨hnen, ?_⟩
      show hw sc (d + 3) 194 52 (jm_st1 (jm_st1 [(0, (2, 192))] 1 (0, ψ2 192 18)) 2 (0, ψ2 195 ((33 + (ψ2 192 18)).toNat))) [] ψ6 y6 Q
      refine hw_ald (b := 0) (e := 0) (by decide +kernel) (get_st1 (get_st1 rfl (by decide) (fun q => tg2 q.2)) (by decide) (fun q => absurd q.1 (by decide))) (by decide) ?_
      refine hw_k (c := 44) (b := 1) (e := 2) (by decide +kernel) ?_
      refine hw_ald (b := 0) (e := 0) (by decide +kernel) (get_st1 (get_st1 rfl (by decide) (fun q => tg2 q.2)) (by decide) (fun q => absurd q.1 (by decide))) (by decide) ?_
      refine hr_gr (w := 195) (b := 12) (e := 7) 192 rfl (by decide +kernel) ?_
      refine hw_k (c := 2) (b := 0) (e := 1) (by decide +kernel) ?_
      refine hr_al (b := 0) (a0 := 0) (e := 0) (n := 99) (w := ψ6 195 2) 195 rfl (by decide +kernel) (by decide) (by decide) (by decide) rfl ?_
      refine hr_call (a0 := 22) (b := 190) (e := 3) (nl := 3) (As := [(0, 44), (0, ψ6 195 2)]) (R := []) 192 rfl (by decide +kernel) rfl rfl (Nat.le_of_ble_eq_true rfl) (Nat.le_of_ble_eq_true rfl) ?_
      refine hw_mono H ?_
      rintro r ψ7 y7 ⟨hyx, z7, hr, H⟩
      subst hyx
      subst hr
      refine ⟨hne0, ?_⟩
      show hw sc (d + 3) 194 64 (jm_st1 (jm_st1 [(0, (2, 192))] 1 (0, ψ2 192 18)) 2 (0, ψ2 195 ((33 + (ψ2 192 18)).toNat))) [(0, z7)] ψ7 y7 Q
      obtain ⟨hz8, ht8, hf8⟩ := H
      refine hw_if (a0 := 0) (b := 1) (e := 69) (by decide +kernel) hz8 (fun q => ?_) (fun q => ?_)
      · have H := ht8 q
        refine hw_ald (b := 0) (e := 0) (by decide +kernel) (get_st1 (get_st1 rfl (by decide) (fun q => tg2 q.2)) (by decide) (fun q => absurd q.1 (by decide))) (by decide) ?_
        refine hr_gr (w := 195) (b := 12) (e := 7) 192 rfl (by decide +kernel) ?_
        refine hw_k (c := 39) (b := 1) (e := 2) (by decide +kernel) ?_
        refine hw_k (c := 6) (b := 1) (e := 2) (by decide +kernel) ?_
        refine hw_ld (b := 1) (e := 0) (by decide +kernel) (get_st1 get_st1e (by decide) (fun q => tg0 q.2)) ?_
        refine hw_bin (w := 6 * (ψ2 192 18)) (a0 := 0) (b := 2) (e := 0) (by decide +kernel) rfl ?_
        refine hw_bin (w := 39 + (6 * (ψ2 192 18))) (a0 := 0) (b := 0) (e := 0) (by decide +kernel) rfl ?_
        refine hw_ld (b := 2) (e := 0) (by decide +kernel) get_st1e ?_
        refine hw_bin (w := (39 + (6 * (ψ2 192 18))) + (ψ2 195 ((33 + (ψ2 192 18)).toNat))) (a0 := 0) (b := 0) (e := 0) (by decide +kernel) rfl ?_
        refine hw_ald (b := 0) (e := 0) (by decide +kernel) (get_st1 (get_st1 rfl (by decide) (fun q => tg2 q.2)) (by decide) (fun q => absurd q.1 (by decide))) (by decide) ?_
        refine hr_gi (w := ψ7 192 18) (b := 12) (e := 18) 192 rfl (by decide +kernel) rfl ?_
        obtain ⟨hl9, hu9, H⟩ := H
        refine hr_as (a0 := 0) (e := 4) (n := 99) 195 rfl (by decide +kernel) hl9 hu9 ?_
        refine hw_ald (b := 0) (e := 0) (by decide +kernel) (get_st1 (get_st1 rfl (by decide) (fun q => tg2 q.2)) (by decide) (fun q => absurd q.1 (by decide))) (by decide) ?_
        refine hr_gr (w := 195) (b := 12) (e := 7) 192 rfl (by decide +kernel) ?_
        refine hw_k (c := 33) (b := 1) (e := 2) (by decide +kernel) ?_
        refine hw_ld (b := 1) (e := 0) (by decide +kernel) (get_st1 get_st1e (by decide) (fun q => tg0 q.2)) ?_
        refine hw_bin (w := 33 + (ψ2 192 18)) (a0 := 0) (b := 0) (e := 0) (by decide +kernel) rfl ?_
        refine hw_dup2 (a0 := 0) (e := 0) (by decide +kernel) (by decide) (by decide) ?_
        obtain ⟨hl10, hu10, H⟩ := H
        refine hr_al (b := 0) (a0 := 0) (e := 0) (n := 99) (w := (hf_up ψ7 195 (((39 + (6 * (ψ2 192 18))) + (ψ2 195 ((33 + (ψ2 192 18)).toNat))).toNat) (ψ7 192 18)) 195 ((33 + (ψ2 192 18)).toNat)) 195 rfl (by decide +kernel) (by decide) hl10 hu10 rfl ?_
        refine hw_k (c := 1) (b := 0) (e := 1) (by decide +kernel) ?_
        refine hw_bin (w := ((hf_up ψ7 195 (((39 + (6 * (ψ2 192 18))) + (ψ2 195 ((33 + (ψ2 192 18)).toNat))).toNat) (ψ7 192 18)) 195 ((33 + (ψ2 192 18)).toNat)) + 1) (a0 := 0) (b := 0) (e := 0) (by decide +kernel) rfl ?_
        obtain ⟨hl11, hu11, H⟩ := H
        refine hr_as (a0 := 0) (e := 4) (n := 99) 195 rfl (by decide +kernel) hl11 hu11 ?_
        refine hw_k (c := 1) (b := 0) (e := 1) (by decide +kernel) ?_
        exact hw_ret (a0 := 0) (e := 1) (by decide +kernel) (Or.inr ⟨rfl, by decide⟩) H
      · have H := hf8 q
        refine hw_k (c := 0) (b := 0) (e := 1) (by decide +kernel) ?_
        exact hw_ret (a0 := 0) (e := 1) (by decide +kernel) (Or.inr ⟨rfl, by decide⟩) H
    · have H := hf5 q
      refine hw_ald (b := 0) (e := 0) (by decide +kernel) (get_st1 (get_st1 rfl (by decide) (fun q => tg2 q.2)) (by decide) (fun q => absurd q.1 (by decide))) (by decide) ?_
      refine hw_k (c := 4) (b := 0) (e := 1) (by decide +kernel) ?_
      refine hr_call (a0 := 22) (b := 182) (e := 2) (nl := 2) (As := [(0, 4)]) (R := []) 192 rfl (by decide +kernel) rfl rfl (Nat.le_of_ble_eq_true rfl) (Nat.le_of_ble_eq_true rfl) ?_
      refine hw_mono H ?_
      rintro r ψ14 y14 ⟨hyx, z14, hr, H⟩
      subst hyx
      subst hr
      refine ⟨hne0, ?_⟩
      show hw sc (d + 3) 194 47 (jm_st1 (jm_st1 [(0, (2, 192))] 1 (0, ψ2 192 18)) 2 (0, ψ2 195 ((33 + (ψ2 192 18)).toNat))) [(0, z14)] ψ14 y14 Q
      exact hw_ret (a0 := 0) (e := 1) (by decide +kernel) (Or.inr ⟨rfl, H.1⟩) H.2
  · have H := hf3 q
    refine hw_k (c := 0) (b := 0) (e := 1) (by decide +kernel) ?_
    exact hw_ret (a0 := 0) (e := 1) (by decide +kernel) (Or.inr ⟨rfl, by decide⟩) H
theorem sf_194_192 {sc : List Int} {d : Nat} {φ : hf_F} {x : Nat} {Q : Option jm_V → hf_F → Nat → Prop}  (hI : Inv φ)  (hQ : ∀ (r : Int) (ψ : hf_F), Inv ψ → Fr [195, 193004, 193011, 193012, 193013, 193014, 193015, 193016, 193017, 193018] φ ψ → 0 ≤ r ∧ r ≤ 1 ∧ (φ 192 4 ≤ ψ 192 4 ∧ (r = 1 → ψ 192 11 = 3 → φ 192 4 < ψ 192 4)) → F_RideLawsModel_readSays_192 φ = (r, ψ) → Q (some (0, r)) ψ x) : hw sc (d + 3) 194 0 [(0, (2, 192))] [] φ x Q := by
  apply sf_194_192_v
  have e0 : F_RideLawsModel_readSays_192 φ = _ := rfl
  refine sf_175_192 (φ := φ) hI  (fun ψ1 hI1 hF1 hV1 hE1 => ⟨rfl, rfl, ?_⟩)
  have hG1 : Fr [195, 193004, 193011, 193012, 193013, 193014, 193015, 193016, 193017, 193018] φ ψ1 := fr_tr (fr_rf) hF1 (by decide)
  have f1 := iv_at (a := 192) (k := 18) (lo := (-1 : Int)) (u := 999) hI (by decide +kernel)
  have f2 := iv_at (a := 192) (k := 30) (lo := 0) (u := 40) hI (by decide +kernel)
  have f3 := iv_at (a := 192) (k := 34) (lo := 0) (u := 45) hI (by decide +kernel)
  have f4 := iv_at (a := 192) (k := 35) (lo := 0) (u := 20) hI (by decide +kernel)
  have f5 := iv_at (a := 192) (k := 36) (lo := 0) (u := 45) hI (by decide +kernel)
  have f6 := iv_at (a := 192) (k := 38) (lo := 0) (u := 1) hI (by decide +kernel)
  have f7 := iv_at (a := 192) (k := 4) (lo := 0) (u := 940) hI (by decide +kernel)
  have f8 := iv_at (a := 192) (k := 11) (lo := 0) (u := 4) hI1 (by decide +kernel)
  have f9 := iv_at (a := 192) (k := 18) (lo := (-1 : Int)) (u := 999) hI1 (by decide +kernel)
  have f10 : ψ1 192 18 = φ 192 18 := (fr_fd hF1 192 18 (by decide))
  have f11 := iv_at (a := 192) (k := 30) (lo := 0) (u := 40) hI1 (by decide +kernel)
  have f12 : ψ1 192 30 = φ 192 30 := (fr_fd hF1 192 30 (by decide))
  have f13 := iv_at (a := 192) (k := 34) (lo := 0) (u := 45) hI1 (by decide +kernel)
  have f14 : ψ1 192 34 = φ 192 34 := (fr_fd hF1 192 34 (by decide))
  have f15 := iv_at (a := 192) (k := 35) (lo := 0) (u := 20) hI1 (by decide +kernel)
  have f16 : ψ1 192 35 = φ 192 35 := (fr_fd hF1 192 35 (by decide))
  have f17 := iv_at (a := 192) (k := 36) (lo := 0) (u := 45) hI1 (by decide +kernel)
  have f18 : ψ1 192 36 = φ 192 36 := (fr_fd hF1 192 36 (by decide))
  have f19 := iv_at (a := 192) (k := 38) (lo := 0) (u := 1) hI1 (by decide +kernel)
  have f20 : ψ1 192 38 = φ 192 38 := (fr_fd hF1 192 38 (by decide))
  have f21 := iv_at (a := 192) (k := 4) (lo := 0) (u := 940) hI1 (by decide +kernel)
  have e1 := e0.trans (bnv_e hE1)
  have f22 := iv_at (a := 195) (k := 3) (lo := 0) (u := 6) hI1 (by decide +kernel)
  have f23 : ψ1 195 3 = φ 195 3 := (fr_at hF1 195 (by decide) 3)
  have f24 := iv_at (a := 195) (k := 3) (lo := 0) (u := 6) hI (by decide +kernel)
  refine sf_191_192 (φ := ψ1) hI1 (by omega) (by omega) (by omega) (by omega) (by omega) (fun z2 ψ2 hI2 hF2 hp2 hE2 => ⟨rfl, z2, rfl, ?_⟩)
  have hG2 : Fr [195, 193004, 193011, 193012, 193013, 193014, 193015, 193016, 193017, 193018] φ ψ2 := fr_tr hG1 hF2 (by decide)
  have f25 := iv_at (a := 192) (k := 18) (lo := (-1 : Int)) (u := 999) hI2 (by decide +kernel)
  have f26 := iv_at (a := 192) (k := 30) (lo := 0) (u := 40) hI2 (by decide +kernel)
  have f27 : ψ2 192 30 = ψ1 192 30 := (fr_fd hF2 192 30 (by decide))
  have f28 := iv_at (a := 192) (k := 34) (lo := 0) (u := 45) hI2 (by decide +kernel)
  have f29 : ψ2 192 34 = ψ1 192 34 := (fr_fd hF2 192 34 (by decide))
  have f30 := iv_at (a := 192) (k := 35) (lo := 0) (u := 20) hI2 (by decide +kernel)
  have f31 : ψ2 192 35 = ψ1 192 35 := (fr_fd hF2 192 35 (by decide))
  have f32 := iv_at (a := 192) (k := 36) (lo := 0) (u := 45) hI2 (by decide +kernel)
  have f33 : ψ2 192 36 = ψ1 192 36 := (fr_fd hF2 192 36 (by decide))
  have f34 := iv_at (a := 192) (k := 38) (lo := 0) (u := 1) hI2 (by decide +kernel)
  have f35 : ψ2 192 38 = ψ1 192 38 := (fr_fd hF2 192 38 (by decide))
  have f36 := iv_at (a := 192) (k := 4) (lo := 0) (u := 940) hI2 (by decide +kernel)
  have f37 : ψ2 192 4 = ψ1 192 4 := (fr_fd hF2 192 4 (by decide))
  have e2 := e1.trans (bnd_e hE2)
  refine ⟨by unfold hi; omega, fun q3 => ?_, fun q3 => ?_⟩
  · skip
    have e3a := e2.trans (if_pos q3)
    refine ⟨by omega, by omega, ?_⟩
    have f38 := iv_ar (a := 195) (s := 33) (t := 39) (lo := 0) (u := 6) (z := 33 + (ψ2 192 18)) hI2 (by decide +kernel) (by omega) (by omega)
    have f39 : ψ2 195 ((33 + (ψ2 192 18)).toNat) = ψ1 195 ((33 + (ψ2 192 18)).toNat) := (fr_at hF2 195 (by decide) ((33 + (ψ2 192 18)).toNat))
    have f40 := iv_ar (a := 195) (s := 33) (t := 39) (lo := 0) (u := 6) (z := 33 + (ψ2 192 18)) hI1 (by decide +kernel) (by omega) (by omega)
    have f41 : ψ1 195 ((33 + (ψ2 192 18)).toNat) = φ 195 ((33 + (ψ2 192 18)).toNat) := (fr_at hF1 195 (by decide) ((33 + (ψ2 192 18)).toNat))
    have f42 := iv_ar (a := 195) (s := 33) (t := 39) (lo := 0) (u := 6) (z := 33 + (ψ2 192 18)) hI (by decide +kernel) (by omega) (by omega)
    refine ⟨by unfold hi; omega, by unfold hi; omega, fun q5 => ?_, fun q5 => ?_⟩
    · skip
      have e5a := e3a.trans (if_pos q5)
      refine sf_175_192 (φ := ψ2) hI2  (fun ψ6 hI6 hF6 hV6 hE6 => ⟨rfl, rfl, ?_⟩)
      have hG6 : Fr [195, 193004, 193011, 193012, 193013, 193014, 193015, 193016, 193017, 193018] φ ψ6 := fr_tr hG2 hF6 (by decide)
      have f43 := iv_at (a := 192) (k := 11) (lo := 0) (u := 4) hI6 (by decide +kernel)
      have f44 := iv_at (a := 192) (k := 18) (lo := (-1 : Int)) (u := 999) hI6 (by decide +kernel)
      have f45 : ψ6 192 18 = ψ2 192 18 := (fr_fd hF6 192 18 (by decide))
      have f46 := iv_at (a := 192) (k := 30) (lo := 0) (u := 40) hI6 (by decide +kernel)
      have f47 : ψ6 192 30 = ψ2 192 30 := (fr_fd hF6 192 30 (by decide))
      have f48 := iv_at (a := 192) (k := 34) (lo := 0) (u := 45) hI6 (by decide +kernel)
      have f49 : ψ6 192 34 = ψ2 192 34 := (fr_fd hF6 192 34 (by decide))
      have f50 := iv_at (a := 192) (k := 35) (lo := 0) (u := 20) hI6 (by decide +kernel)
      have f51 : ψ6 192 35 = ψ2 192 35 := (fr_fd hF6 192 35 (by decide))
      have f52 := iv_at (a := 192) (k := 36) (lo := 0) (u := 45) hI6 (by decide +kernel)
      have f53 : ψ6 192 36 = ψ2 192 36 := (fr_fd hF6 192 36 (by decide))
      have f54 := iv_at (a := 192) (k := 38) (lo := 0) (u := 1) hI6 (by decide +kernel)
      have f55 : ψ6 192 38 = ψ2 192 38 := (fr_fd hF6 192 38 (by decide))
      have f56 := iv_at (a := 192) (k := 4) (lo := 0) (u := 940) hI6 (by decide +kernel)
      have e6 := e5a.trans (bnv_e hE6)
      have f57 := iv_at (a := 195) (k := 2) (lo := 0) (u := 8) hI6 (by decide +kernel)
      have f58 : ψ6 195 2 = ψ2 195 2 := (fr_at hF6 195 (by decide) 2)
      have f59 := iv_at (a := 195) (k := 2) (lo := 0) (u := 8) hI2 (by decide +kernel)
      have f60 : ψ2 195 2 = ψ1 195 2 := (fr_at hF2 195 (by decide) 2)
      have f61 := iv_at (a := 195) (k := 2) (lo := 0) (u := 8) hI1 (by decide +kernel)
      have f62 : ψ1 195 2 = φ 195 2 := (fr_at hF1 195 (by decide) 2)
      have f63 := iv_at (a := 195) (k := 2) (lo := 0) (u := 8) hI (by decide +kernel)
      refine sf_190_192 (φ := ψ6) hI6 (by omega) (by omega) (by omega) (by omega) (by omega) (fun z7 ψ7 hI7 hF7 hp7 hE7 => ⟨rfl, z7, rfl, ?_⟩)
      have hG7 : Fr [195, 193004, 193011, 193012, 193013, 193014, 193015, 193016, 193017, 193018] φ ψ7 := fr_tr hG6 hF7 (by decide)
      have f64 := iv_at (a := 192) (k := 11) (lo := 0) (u := 4) hI7 (by decide +kernel)
      have f65 := iv_at (a := 192) (k := 18) (lo := (-1 : Int)) (u := 999) hI7 (by decide +kernel)
      have f66 := iv_at (a := 192) (k := 30) (lo := 0) (u := 40) hI7 (by decide +kernel)
      have f67 : ψ7 192 30 = ψ6 192 30 := (fr_fd hF7 192 30 (by decide))
      have f68 := iv_at (a := 192) (k := 4) (lo := 0) (u := 940) hI7 (by decide +kernel)
      have e7 := e6.trans (bnd_e hE7)
      refine ⟨by unfold hi; omega, fun q8 => ?_, fun q8 => ?_⟩
      · skip
        have e8a := e7.trans (if_pos q8)
        refine ⟨by omega, by omega, ?_⟩
        have i69 : Inv (hf_up ψ7 195 (((39 + (6 * (ψ2 192 18))) + (ψ2 195 ((33 + (ψ2 192 18)).toNat))).toNat) (ψ7 192 18)) := iv_upI (s := 39) (t := 75) (lo := 0) (u := 7) (z := (39 + (6 * (ψ2 192 18))) + (ψ2 195 ((33 + (ψ2 192 18)).toNat))) hI7 (by decide +kernel) (by omega) (by omega) (by omega) (by omega)
        have r69 : Fr [195, 193004, 193011, 193012, 193013, 193014, 193015, 193016, 193017, 193018] φ (hf_up ψ7 195 (((39 + (6 * (ψ2 192 18))) + (ψ2 195 ((33 + (ψ2 192 18)).toNat))).toNat) (ψ7 192 18)) := fr_upa hG7 (by decide)
        refine ⟨by omega, by omega, ?_⟩
        have f70 := iv_ar (a := 195) (s := 33) (t := 39) (lo := 0) (u := 6) (z := 33 + (ψ2 192 18)) i69 (by decide +kernel) (by omega) (by omega)
        have f71 : (hf_up ψ7 195 (((39 + (6 * (ψ2 192 18))) + (ψ2 195 ((33 + (ψ2 192 18)).toNat))).toNat) (ψ7 192 18)) 195 ((33 + (ψ2 192 18)).toNat) = ψ7 195 ((33 + (ψ2 192 18)).toNat) := (hf_up_ne (fun q => absurd q.2 (by omega)))
        have f72 := iv_ar (a := 195) (s := 33) (t := 39) (lo := 0) (u := 6) (z := 33 + (ψ2 192 18)) hI7 (by decide +kernel) (by omega) (by omega)
        have f73 : ψ7 195 ((33 + (ψ2 192 18)).toNat) = ψ6 195 ((33 + (ψ2 192 18)).toNat) := (fr_at hF7 195 (by decide) ((33 + (ψ2 192 18)).toNat))
        have f74 := iv_ar (a := 195) (s := 33) (t := 39) (lo := 0) (u := 6) (z := 33 + (ψ2 192 18)) hI6 (by decide +kernel) (by omega) (by omega)
        have f75 : ψ6 195 ((33 + (ψ2 192 18)).toNat) = ψ2 195 ((33 + (ψ2 192 18)).toNat) := (fr_at hF6 195 (by decide) ((33 + (ψ2 192 18)).toNat))
        refine ⟨by omega, by omega, ?_⟩
        have i76 : Inv (hf_up (hf_up ψ7 195 (((39 + (6 * (ψ2 192 18))) + (ψ2 195 ((33 + (ψ2 192 18)).toNat))).toNat) (ψ7 192 18)) 195 ((33 + (ψ2 192 18)).toNat) (((hf_up ψ7 195 (((39 + (6 * (ψ2 192 18))) + (ψ2 195 ((33 + (ψ2 192 18)).toNat))).toNat) (ψ7 192 18)) 195 ((33 + (ψ2 192 18)).toNat)) + 1)) := iv_upI (s := 33) (t := 39) (lo := 0) (u := 6) (z := 33 + (ψ2 192 18)) i69 (by decide +kernel) (by omega) (by omega) (by omega) (by omega)
        have r76 : Fr [195, 193004, 193011, 193012, 193013, 193014, 193015, 193016, 193017, 193018] φ (hf_up (hf_up ψ7 195 (((39 + (6 * (ψ2 192 18))) + (ψ2 195 ((33 + (ψ2 192 18)).toNat))).toNat) (ψ7 192 18)) 195 ((33 + (ψ2 192 18)).toNat) (((hf_up ψ7 195 (((39 + (6 * (ψ2 192 18))) + (ψ2 195 ((33 + (ψ2 192 18)).toNat))).toNat) (ψ7 192 18)) 195 ((33 + (ψ2 192 18)).toNat)) + 1)) := fr_upa r69 (by decide)
        have f77 : (hf_up (hf_up ψ7 195 (((39 + (6 * (ψ2 192 18))) + (ψ2 195 ((33 + (ψ2 192 18)).toNat))).toNat) (ψ7 192 18)) 195 ((33 + (ψ2 192 18)).toNat) (((hf_up ψ7 195 (((39 + (6 * (ψ2 192 18))) + (ψ2 195 ((33 + (ψ2 192 18)).toNat))).toNat) (ψ7 192 18)) 195 ((33 + (ψ2 192 18)).toNat)) + 1)) 192 11 = ψ7 192 11 := ((hf_up_ne (fun q => absurd q.1 (by decide))).trans (hf_up_ne (fun q => absurd q.1 (by decide))))
        have f78 : (hf_up (hf_up ψ7 195 (((39 + (6 * (ψ2 192 18))) + (ψ2 195 ((33 + (ψ2 192 18)).toNat))).toNat) (ψ7 192 18)) 195 ((33 + (ψ2 192 18)).toNat) (((hf_up ψ7 195 (((39 + (6 * (ψ2 192 18))) + (ψ2 195 ((33 + (ψ2 192 18)).toNat))).toNat) (ψ7 192 18)) 195 ((33 + (ψ2 192 18)).toNat)) + 1)) 192 4 = ψ7 192 4 := ((hf_up_ne (fun q => absurd q.1 (by decide))).trans (hf_up_ne (fun q => absurd q.1 (by decide))))
        exact hQ 1 (hf_up (hf_up ψ7 195 (((39 + (6 * (ψ2 192 18))) + (ψ2 195 ((33 + (ψ2 192 18)).toNat))).toNat) (ψ7 192 18)) 195 ((33 + (ψ2 192 18)).toNat) (((hf_up ψ7 195 (((39 + (6 * (ψ2 192 18))) + (ψ2 195 ((33 + (ψ2 192 18)).toNat))).toNat) (ψ7 192 18)) 195 ((33 + (ψ2 192 18)).toNat)) + 1)) i76 r76 ⟨by omega, by omega, by omega⟩ e8a
      · skip
        have e8b := e7.trans (if_neg q8)
        exact hQ 0 ψ7 hI7 hG7 ⟨by omega, by omega, by omega⟩ e8b
    · skip
      have e5b := e3a.trans (if_neg q5)
      refine sf_182_192 (φ := ψ2) hI2 (by omega) (by omega) (fun z14 ψ14 hI14 hF14 hp14 hE14 => ⟨rfl, z14, rfl, ?_⟩)
      have hG14 : Fr [195, 193004, 193011, 193012, 193013, 193014, 193015, 193016, 193017, 193018] φ ψ14 := fr_tr hG2 hF14 (by decide)
      have f79 := iv_at (a := 192) (k := 30) (lo := 0) (u := 40) hI14 (by decide +kernel)
      have f80 : ψ14 192 30 = ψ2 192 30 := (fr_fd hF14 192 30 (by decide))
      have f81 := iv_at (a := 192) (k := 4) (lo := 0) (u := 940) hI14 (by decide +kernel)
      have f82 : ψ14 192 4 = ψ2 192 4 := (fr_fd hF14 192 4 (by decide))
      have e14 := e5b.trans (bnd_e hE14)
      have f83 := iv_at (a := 192) (k := 11) (lo := 0) (u := 4) hI14 (by decide +kernel)
      have f84 : ψ14 192 11 = ψ2 192 11 := (fr_fd hF14 192 11 (by decide))
      have f85 := iv_at (a := 192) (k := 11) (lo := 0) (u := 4) hI2 (by decide +kernel)
      have f86 : ψ2 192 11 = ψ1 192 11 := (fr_fd hF2 192 11 (by decide))
      refine ⟨by omega, ?_⟩
      exact hQ z14 ψ14 hI14 hG14 ⟨by omega, by omega, by omega⟩ e14
  · skip
    have e3b := e2.trans (if_neg q3)
    have f87 := iv_at (a := 192) (k := 11) (lo := 0) (u := 4) hI2 (by decide +kernel)
    have f88 : ψ2 192 11 = ψ1 192 11 := (fr_fd hF2 192 11 (by decide))
    exact hQ 0 ψ2 hI2 hG2 ⟨by omega, by omega, by omega⟩ e3b
theorem sf_195_192_v75 {sc : List Int} {d : Nat} {φ : hf_F} {x : Nat} {Q : Option jm_V → hf_F → Nat → Prop} {L : jm_L} {l1 l2 l3 : Int} (g0 : jm_get L 0 = some (2, 192)) (g1 : jm_get L 1 = some (0, l1)) (g2 : jm_get L 2 = some (0, l2)) (g3 : jm_get L 3 = some (0, l3))
    (H : hi l3 ∧ hi l1 ∧ (l1 ≤ l3 → 0 ≤ (75 + l1) ∧ (75 + l1) < 99 ∧ (0 ≤ (83 + l1) ∧ (83 + l1) < 99 ∧ (hw sc (d + 2) 175 0 [(0, (2, 192))] [] (hf_up (hf_up φ 195 ((75 + l1).toNat) l2) 195 ((83 + l1).toNat) (φ 192 18)) x (fun r ψ4 y4 => y4 = x ∧ (r = none ∧ (Q (some (0, 1)) (hf_up ψ4 195 4 ((ψ4 195 4) + 1)) x)))))) ∧ (¬ l1 ≤ l3 → 0 ≤ (75 + l3) ∧ (75 + l3) < 99 ∧ (hi (φ 195 ((75 + l3).toNat)) ∧ hi l2 ∧ (¬ (φ 195 ((75 + l3).toNat)) = l2 → hw sc (d + 3) 195 75 (jm_st1 L 3 (0, l3 + 1)) [] φ x Q) ∧ (¬ (¬ (φ 195 ((75 + l3).toNat)) = l2) → 0 ≤ (83 + l3) ∧ (83 + l3) < 99 ∧ (hi (φ 195 ((83 + l3).toNat)) ∧ hi (φ 192 18) ∧ (¬ (φ 195 ((83 + l3).toNat)) = (φ 192 18) → hw sc (d + 3) 195 75 (jm_st1 L 3 (0, l3 + 1)) [] φ x Q) ∧ (¬ (¬ (φ 195 ((83 + l3).toNat)) = (φ 192 18)) → hw sc (d + 2) 182 0 [(0, (2, 192)), (1, (0, 3))] [] φ x (fun r ψ10 y10 => y10 = x ∧ (∃ z10 : Int, r = some (0, z10) ∧ ((z10 = 0 ∨ z10 = 1) ∧ Q (some (0, z10)) ψ10 x))))))))) :
    hw sc (d + 3) 195 75 L [] φ x Q := by
  refine hw_ld (b := 3) (e := 0) (by decide +kernel) g3 ?_
  refine hw_ld (b := 1) (e := 0) (by decide +kernel) g1 ?_
  obtain ⟨hz1, hy1, ht1, hf1⟩ := H
  refine hw_if2 (a0 := 0) (b := 3) (e := 121) (by decide +kernel) hz1 hy1 (fun q => ?_) (fun q => ?_)
  · have H := ht1 q
    refine hw_ald (b := 0) (e := 0) (by decide +kernel) g0 (by decide) ?_
    refine hr_gr (w := 195) (b := 12) (e := 7) 192 rfl (by decide +kernel) ?_
    refine hw_k (c := 75) (b := 1) (e := 2) (by decide +kernel) ?_
    refine hw_ld (b := 1) (e := 0) (by decide +kernel) g1 ?_
    refine hw_bin (w := 75 + l1) (a0 := 0) (b := 0) (e := 0) (by decide +kernel) rfl ?_
    refine hw_ld (b := 2) (e := 0) (by decide +kernel) g2 ?_
    obtain ⟨hl2, hu2, H⟩ := H
    refine hr_as (a0 := 0) (e := 4) (n := 99) 195 rfl (by decide +kernel) hl2 hu2 ?_
    refine hw_ald (b := 0) (e := 0) (by decide +kernel) g0 (by decide) ?_
    refine hr_gr (w := 195) (b := 12) (e := 7) 192 rfl (by decide +kernel) ?_
    refine hw_k (c := 83) (b := 1) (e := 2) (by decide +kernel) ?_
    refine hw_ld (b := 1) (e := 0) (by decide +kernel) g1 ?_
    refine hw_bin (w := 83 + l1) (a0 := 0) (b := 0) (e := 0) (by decide +kernel) rfl ?_
    refine hw_ald (b := 0) (e := 0) (by decide +kernel) g0 (by decide) ?_
    refine hr_gi (w := φ 192 18) (b := 12) (e := 18) 192 rfl (by decide +kernel) (hf_up_ne (fun q => absurd q.1 (by decide))) ?_
    obtain ⟨hl3, hu3, H⟩ := H
    refine hr_as (a0 := 0) (e := 4) (n := 99) 195 rfl (by decide +kernel) hl3 hu3 ?_
    refine hw_ald (b := 0) (e := 0) (by decide +kernel) g0 (by decide) ?_
    refine hr_call (a0 := 22) (b := 175) (e := 1) (nl := 4) (As := []) (R := []) 192 rfl (by decide +kernel) rfl rfl (Nat.le_of_ble_eq_true rfl) (Nat.le_of_ble_eq_true rfl) ?_
    refine hw_mono H ?_
    rintro r ψ4 y4 ⟨hyx, hr, H⟩
    subst hyx
    subst hr
    refine ⟨hnen, ?_⟩
    show hw sc (d + 3) 195 148 L [] ψ4 y4 Q
    refine hw_ald (b := 0) (e := 0) (by decide +kernel) g0 (by decide) ?_
    refine hr_gr (w := 195) (b := 12) (e := 7) 192 rfl (by decide +kernel) ?_
    refine hw_k (c := 4) (b := 0) (e := 1) (by decide +kernel) ?_
    refine hw_dup2 (a0 := 0) (e := 0) (by decide +kernel) (by decide) (by decide) ?_
    refine hr_al (b := 0) (a0 := 0) (e := 0) (n := 99) (w := ψ4 195 4) 195 rfl (by decide +kernel) (by decide) (by decide) (by decide) rfl ?_
    refine hw_k (c := 1) (b := 0) (e := 1) (by decide +kernel) ?_
    refine hw_bin (w := (ψ4 195 4) + 1) (a0 := 0) (b := 0) (e := 0) (by decide +kernel) rfl ?_
    refine hr_as (a0 := 0) (e := 4) (n := 99) 195 rfl (by decide +kernel) (by decide) (by decide) ?_
    refine hw_k (c := 1) (b := 0) (e := 1) (by decide +kernel) ?_
    exact hw_ret (a0 := 0) (e := 1) (by decide +kernel) (Or.inr ⟨rfl, by decide⟩) H
  · have H := hf1 q
    refine hw_ald (b := 0) (e := 0) (by decide +kernel) g0 (by decide) ?_
    refine hr_gr (w := 195) (b := 12) (e := 7) 192 rfl (by decide +kernel) ?_
    refine hw_k (c := 75) (b := 1) (e := 2) (by decide +kernel) ?_
    refine hw_ld (b := 3) (e := 0) (by decide +kernel) g3 ?_
    refine hw_bin (w := 75 + l3) (a0 := 0) (b := 0) (e := 0) (by decide +kernel) rfl ?_
    obtain ⟨hl6, hu6, H⟩ := H
    refine hr_al (b := 0) (a0 := 0) (e := 0) (n := 99) (w := φ 195 ((75 + l3).toNat)) 195 rfl (by decide +kernel) (by decide) hl6 hu6 rfl ?_
    refine hw_ld (b := 2) (e := 0) (by decide +kernel) g2 ?_
    obtain ⟨hz7, hy7, ht7, hf7⟩ := H
    refine hw_if2 (a0 := 0) (b := 1) (e := 115) (by decide +kernel) hz7 hy7 (fun q => ?_) (fun q => ?_)
    · have H := ht7 q
      refine hw_inc (L' := (jm_st1 L 3 (0, l3 + 1))) (c := 1) (b := 3) (e := 0) (by decide +kernel) g3 rfl ?_
      refine hw_goto (a0 := 0) (b := 0) (e := 75) (by decide +kernel) ?_
      exact H
    · have H := hf7 q
      refine hw_ald (b := 0) (e := 0) (by decide +kernel) g0 (by decide) ?_
      refine hr_gr (w := 195) (b := 12) (e := 7) 192 rfl (by decide +kernel) ?_
      refine hw_k (c := 83) (b := 1) (e := 2) (by decide +kernel) ?_
      refine hw_ld (b := 3) (e := 0) (by decide +kernel) g3 ?_
      refine hw_bin (w := 83 + l3) (a0 := 0) (b := 0) (e := 0) (by decide +kernel) rfl ?_
      obtain ⟨hl8, hu8, H⟩ := H
      refine hr_al (b := 0) (a0 := 0) (e := 0) (n := 99) (w := φ 195 ((83 + l3).toNat)) 195 rfl (by decide +kernel) (by decide) hl8 hu8 rfl ?_
      refine hw_ald (b := 0) (e := 0) (by decide +kernel) g0 (by decide) ?_
      refine hr_gi (w := φ 192 18) (b := 12) (e := 18) 192 rfl (by decide +kernel) rfl ?_
      obtain ⟨hz9, hy9, ht9, hf9⟩ := H
      refine hw_if2 (a0 := 0) (b := 1) (e := 115) (by decide +kernel) hz9 hy9 (fun q => ?_) (fun q => ?_)
      · have H := ht9 q
        refine hw_inc (L' := (jm_st1 L 3 (0, l3 + 1))) (c := 1) (b := 3) (e := 0) (by decide +kernel) g3 rfl ?_
        refine hw_goto (a0 := 0) (b := 0) (e := 75) (by decide +kernel) ?_
        exact H
      · have H := hf9 q
        refine hw_ald (b := 0) (e := 0) (by decide +kernel) g0 (by decide) ?_
        refine hw_k (c := 3) (b := 0) (e := 1) (by decide +kernel) ?_
        refine hr_call (a0 := 22) (b := 182) (e := 2) (nl := 2) (As := [(0, 3)]) (R := []) 192 rfl (by decide +kernel) rfl rfl (Nat.le_of_ble_eq_true rfl) (Nat.le_of_ble_eq_true rfl) ?_
        refine hw_mono H ?_
        rintro r ψ10 y10 ⟨hyx, z10, hr, H⟩
        subst hyx
        subst hr
        refine ⟨hne0, ?_⟩
        show hw sc (d + 3) 195 114 L [(0, z10)] ψ10 y10 Q
        exact hw_ret (a0 := 0) (e := 1) (by decide +kernel) (Or.inr ⟨rfl, H.1⟩) H.2
theorem sf_195_192_l75 {sc : List Int} {d x : Nat} {Q : Option jm_V → hf_F → Nat → Prop} : ∀ (n : Nat) (φ : hf_F) (L : jm_L) (l1 l2 l3 : Int), jm_get L 0 = some (2, 192) → jm_get L 1 = some (0, l1) → jm_get L 2 = some (0, l2) → jm_get L 3 = some (0, l3) → Inv φ → 8 - l3 < (n : Int) → 0 ≤ l1 → l1 ≤ 7 → 0 ≤ l2 → l2 ≤ 7 → 0 ≤ l3 → l3 ≤ 8 → l1 = φ 195 4 → 0 ≤ φ 192 18 → φ 192 18 ≤ 7 → (∀ (r : Int) (ψ : hf_F), Inv ψ → Fr [195, 197, 193004, 193011, 193012, 193013, 193014, 193015, 193016, 193017, 193018] φ ψ → 0 ≤ r ∧ r ≤ 1 ∧ (φ 192 4 ≤ ψ 192 4 ∧ (r = 1 → ψ 192 11 = 3 → φ 192 4 < ψ 192 4)) → F_RideLawsModel_readLaw_192_l75 n φ l1 l2 l3 = (r, ψ) → Q (some (0, r)) ψ x) → hw sc (d + 3) 195 75 L [] φ x Q := by
  intro n
  induction n with
  | zero =>
    intro φ L l1 l2 l3 g0 g1 g2 g3 hI hM b1a b1b b2a b2b b3a b3b c0 c1 c2 hQ
    exfalso
    omega
  | succ n ih =>
    intro φ L l1 l2 l3 g0 g1 g2 g3 hI hM b1a b1b b2a b2b b3a b3b c0 c1 c2 hQ
    refine sf_195_192_v75 g0 g1 g2 g3 ?_
    have e0 := F_RideLawsModel_readLaw_192_l75_s (φ := φ) (l1 := l1) (l2 := l2) (l3 := l3) n
    refine ⟨by unfold hi; omega, by unfold hi; omega, fun q1 => ?_, fun q1 => ?_⟩
    · skip
      have e1a := e0.trans (if_pos q1)
      refine ⟨by omega, by omega, ?_⟩
      have i1 : Inv (hf_up φ 195 ((75 + l1).toNat) l2) := iv_upI (s := 75) (t := 83) (lo := 0) (u := 7) (z := 75 + l1) hI (by decide +kernel) (by omega) (by omega) (by omega) (by omega)
      have r1 : Fr [195, 197, 193004, 193011, 193012, 193013, 193014, 193015, 193016, 193017, 193018] φ (hf_up φ 195 ((75 + l1).toNat) l2) := fr_upa (fr_rf) (by decide)
      have f2 := iv_at (a := 192) (k := 18) (lo := (-1 : Int)) (u := 999) hI (by decide +kernel)
      refine ⟨by omega, by omega, ?_⟩
      have i3 : Inv (hf_up (hf_up φ 195 ((75 + l1).toNat) l2) 195 ((83 + l1).toNat) (φ 192 18)) := iv_upI (s := 83) (t := 91) (lo := 0) (u := 7) (z := 83 + l1) i1 (by decide +kernel) (by omega) (by omega) (by omega) (by omega)
      have r3 : Fr [195, 197, 193004, 193011, 193012, 193013, 193014, 193015, 193016, 193017, 193018] φ (hf_up (hf_up φ 195 ((75 + l1).toNat) l2) 195 ((83 + l1).toNat) (φ 192 18)) := fr_upa r1 (by decide)
      refine sf_175_192 (φ := (hf_up (hf_up φ 195 ((75 + l1).toNat) l2) 195 ((83 + l1).toNat) (φ 192 18))) i3  (fun ψ4 hI4 hF4 hV4 hE4 => ⟨rfl, rfl, ?_⟩)
      have hG4 : Fr [195, 197, 193004, 193011, 193012, 193013, 193014, 193015, 193016, 193017, 193018] φ ψ4 := fr_tr r3 hF4 (by decide)
      have f4 : (hf_up (hf_up φ 195 ((75 + l1).toNat) l2) 195 ((83 + l1).toNat) (φ 192 18)) 192 18 = φ 192 18 := ((hf_up_ne (fun q => absurd q.1 (by decide))).trans (hf_up_ne (fun q => absurd q.1 (by decide))))
      have f5 : (hf_up (hf_up φ 195 ((75 + l1).toNat) l2) 195 ((83 + l1).toNat) (φ 192 18)) 192 30 = φ 192 30 := ((hf_up_ne (fun q => absurd q.1 (by decide))).trans (hf_up_ne (fun q => absurd q.1 (by decide))))
      have f6 := iv_at (a := 192) (k := 30) (lo := 0) (u := 40) hI (by decide +kernel)
      have f7 : (hf_up (hf_up φ 195 ((75 + l1).toNat) l2) 195 ((83 + l1).toNat) (φ 192 18)) 192 34 = φ 192 34 := ((hf_up_ne (fun q => absurd q.1 (by decide))).trans (hf_up_ne (fun q => absurd q.1 (by decide))))
      have f8 := iv_at (a := 192) (k := 34) (lo := 0) (u := 45) hI (by decide +kernel)
      have f9 : (hf_up (hf_up φ 195 ((75 + l1).toNat) l2) 195 ((83 + l1).toNat) (φ 192 18)) 192 35 = φ 192 35 := ((hf_up_ne (fun q => absurd q.1 (by decide))).trans (hf_up_ne (fun q => absurd q.1 (by decide))))
      have f10 := iv_at (a := 192) (k := 35) (lo := 0) (u := 20) hI (by decide +kernel)
      have f11 : (hf_up (hf_up φ 195 ((75 + l1).toNat) l2) 195 ((83 + l1).toNat) (φ 192 18)) 192 36 = φ 192 36 := ((hf_up_ne (fun q => absurd q.1 (by decide))).trans (hf_up_ne (fun q => absurd q.1 (by decide))))
      have f12 := iv_at (a := 192) (k := 36) (lo := 0) (u := 45) hI (by decide +kernel)
      have f13 : (hf_up (hf_up φ 195 ((75 + l1).toNat) l2) 195 ((83 + l1).toNat) (φ 192 18)) 192 38 = φ 192 38 := ((hf_up_ne (fun q => absurd q.1 (by decide))).trans (hf_up_ne (fun q => absurd q.1 (by decide))))
      have f14 := iv_at (a := 192) (k := 38) (lo := 0) (u := 1) hI (by decide +kernel)
      have f15 : (hf_up (hf_up φ 195 ((75 + l1).toNat) l2) 195 ((83 + l1).toNat) (φ 192 18)) 192 4 = φ 192 4 := ((hf_up_ne (fun q => absurd q.1 (by decide))).trans (hf_up_ne (fun q => absurd q.1 (by decide))))
      have f16 := iv_at (a := 192) (k := 4) (lo := 0) (u := 940) hI (by decide +kernel)
      have f17 := iv_at (a := 192) (k := 11) (lo := 0) (u := 4) hI4 (by decide +kernel)
      have f18 := iv_at (a := 192) (k := 18) (lo := (-1 : Int)) (u := 999) hI4 (by decide +kernel)
      have f19 : ψ4 192 18 = φ 192 18 := (fr_fd hF4 192 18 (by decide)).trans ((hf_up_ne (fun q => absurd q.1 (by decide))).trans (hf_up_ne (fun q => absurd q.1 (by decide))))
      have f20 := iv_at (a := 192) (k := 30) (lo := 0) (u := 40) hI4 (by decide +kernel)
      have f21 : ψ4 192 30 = φ 192 30 := (fr_fd hF4 192 30 (by decide)).trans ((hf_up_ne (fun q => absurd q.1 (by decide))).trans (hf_up_ne (fun q => absurd q.1 (by decide))))
      have f22 := iv_at (a := 192) (k := 34) (lo := 0) (u := 45) hI4 (by decide +kernel)
      have f23 : ψ4 192 34 = φ 192 34 := (fr_fd hF4 192 34 (by decide)).trans ((hf_up_ne (fun q => absurd q.1 (by decide))).trans (hf_up_ne (fun q => absurd q.1 (by decide))))
      have f24 := iv_at (a := 192) (k := 35) (lo := 0) (u := 20) hI4 (by decide +kernel)
      have f25 : ψ4 192 35 = φ 192 35 := (fr_fd hF4 192 35 (by decide)).trans ((hf_up_ne (fun q => absurd q.1 (by decide))).trans (hf_up_ne (fun q => absurd q.1 (by decide))))
      have f26 := iv_at (a := 192) (k := 36) (lo := 0) (u := 45) hI4 (by decide +kernel)
      have f27 : ψ4 192 36 = φ 192 36 := (fr_fd hF4 192 36 (by decide)).trans ((hf_up_ne (fun q => absurd q.1 (by decide))).trans (hf_up_ne (fun q => absurd q.1 (by decide))))
      have f28 := iv_at (a := 192) (k := 38) (lo := 0) (u := 1) hI4 (by decide +kernel)
      have f29 : ψ4 192 38 = φ 192 38 := (fr_fd hF4 192 38 (by decide)).trans ((hf_up_ne (fun q => absurd q.1 (by decide))).trans (hf_up_ne (fun q => absurd q.1 (by decide))))
      have f30 := iv_at (a := 192) (k := 4) (lo := 0) (u := 940) hI4 (by decide +kernel)
      have e4 := e1a.trans (bnv_e hE4)
      have f31 := iv_at (a := 195) (k := 4) (lo := 0) (u := 8) hI4 (by decide +kernel)
      have f32 : ψ4 195 4 = φ 195 4 := (fr_at hF4 195 (by decide) 4).trans ((hf_up_ne (fun q => absurd q.2 (by omega))).trans (hf_up_ne (fun q => absurd q.2 (by omega))))
      have f33 := iv_at (a := 195) (k := 4) (lo := 0) (u := 8) i3 (by decide +kernel)
      have i34 : Inv (hf_up ψ4 195 4 ((ψ4 195 4) + 1)) := iv_up (lo := 0) (u := 8) hI4 (by decide +kernel) (by omega) (by omega)
      have r34 : Fr [195, 197, 193004, 193011, 193012, 193013, 193014, 193015, 193016, 193017, 193018] φ (hf_up ψ4 195 4 ((ψ4 195 4) + 1)) := fr_upa hG4 (by decide)
      have f35 : (hf_up ψ4 195 4 ((ψ4 195 4) + 1)) 192 11 = ψ4 192 11 := (hf_up_ne (fun q => absurd q.1 (by decide)))
      have f36 : (hf_up ψ4 195 4 ((ψ4 195 4) + 1)) 192 4 = ψ4 192 4 := (hf_up_ne (fun q => absurd q.1 (by decide)))
      exact hQ 1 (hf_up ψ4 195 4 ((ψ4 195 4) + 1)) i34 r34 ⟨by omega, by omega, by omega⟩ e4
    · skip
      have e1b := e0.trans (if_neg q1)
      refine ⟨by omega, by omega, ?_⟩
      have f37 := iv_ar (a := 195) (s := 75) (t := 83) (lo := 0) (u := 7) (z := 75 + l3) hI (by decide +kernel) (by omega) (by omega)
      refine ⟨by unfold hi; omega, by unfold hi; omega, fun q7 => ?_, fun q7 => ?_⟩
      · skip
        have e7a := e1b.trans (if_pos q7)
        have f38 := iv_at (a := 192) (k := 18) (lo := (-1 : Int)) (u := 999) hI (by decide +kernel)
        have f39 := iv_at (a := 192) (k := 4) (lo := 0) (u := 940) hI (by decide +kernel)
        have f40 := iv_at (a := 195) (k := 4) (lo := 0) (u := 8) hI (by decide +kernel)
        exact ih φ (jm_st1 L 3 (0, l3 + 1)) l1 l2 (l3 + 1) (get_st1 g0 (by decide) (fun q => absurd q.1 (by decide))) (get_st1 g1 (by decide) (fun q => absurd q.1 (by decide))) (get_st1 g2 (by decide) (fun q => tg0 q.2)) get_st1e hI (by omega) (by omega) (by omega) (by omega) (by omega) (by omega) (by omega) (by omega) (by omega) (by omega) (fun rr χ hIχ hFχ hpχ hEχ => hQ rr χ hIχ (fr_tr (fr_rf) hFχ (by decide)) (by omega) (e7a.trans hEχ))
      · skip
        have e7b := e1b.trans (if_neg q7)
        refine ⟨by omega, by omega, ?_⟩
        have f41 := iv_ar (a := 195) (s := 83) (t := 91) (lo := 0) (u := 7) (z := 83 + l3) hI (by decide +kernel) (by omega) (by omega)
        have f42 := iv_at (a := 192) (k := 18) (lo := (-1 : Int)) (u := 999) hI (by decide +kernel)
        refine ⟨by unfold hi; omega, by unfold hi; omega, fun q9 => ?_, fun q9 => ?_⟩
        · skip
          have e9a := e7b.trans (if_pos q9)
          have f43 := iv_at (a := 192) (k := 4) (lo := 0) (u := 940) hI (by decide +kernel)
          have f44 := iv_at (a := 195) (k := 4) (lo := 0) (u := 8) hI (by decide +kernel)
          exact ih φ (jm_st1 L 3 (0, l3 + 1)) l1 l2 (l3 + 1) (get_st1 g0 (by decide) (fun q => absurd q.1 (by decide))) (get_st1 g1 (by decide) (fun q => absurd q.1 (by decide))) (get_st1 g2 (by decide) (fun q => tg0 q.2)) get_st1e hI (by omega) (by omega) (by omega) (by omega) (by omega) (by omega) (by omega) (by omega) (by omega) (by omega) (fun rr χ hIχ hFχ hpχ hEχ => hQ rr χ hIχ (fr_tr (fr_rf) hFχ (by decide)) (by omega) (e9a.trans hEχ))
        · skip
          have e9b := e7b.trans (if_neg q9)
          refine sf_182_192 (φ := φ) hI (by omega) (by omega) (fun z10 ψ10 hI10 hF10 hp10 hE10 => ⟨rfl, z10, rfl, ?_⟩)
          have hG10 : Fr [195, 197, 193004, 193011, 193012, 193013, 193014, 193015, 193016, 193017, 193018] φ ψ10 := fr_tr (fr_rf) hF10 (by decide)
          have f45 := iv_at (a := 192) (k := 30) (lo := 0) (u := 40) hI (by decide +kernel)
          have f46 := iv_at (a := 192) (k := 4) (lo := 0) (u := 940) hI (by decide +kernel)
          have f47 := iv_at (a := 192) (k := 30) (lo := 0) (u := 40) hI10 (by decide +kernel)
          have f48 : ψ10 192 30 = φ 192 30 := (fr_fd hF10 192 30 (by decide))
          have f49 := iv_at (a := 192) (k := 4) (lo := 0) (u := 940) hI10 (by decide +kernel)
          have f50 : ψ10 192 4 = φ 192 4 := (fr_fd hF10 192 4 (by decide))
          have e10 := e9b.trans (bnd_e hE10)
          have f51 := iv_at (a := 192) (k := 11) (lo := 0) (u := 4) hI10 (by decide +kernel)
          have f52 : ψ10 192 11 = φ 192 11 := (fr_fd hF10 192 11 (by decide))
          have f53 := iv_at (a := 192) (k := 11) (lo := 0) (u := 4) hI (by decide +kernel)
          refine ⟨by omega, ?_⟩
          exact hQ z10 ψ10 hI10 hG10 ⟨by omega, by omega, by omega⟩ e10
theorem sf_195_192_v {sc : List Int} {d : Nat} {φ : hf_F} {x : Nat} {Q : Option jm_V → hf_F → Nat → Prop} 
    (H : hi (φ 195 4) ∧ hi 8 ∧ (¬ (φ 195 4) = 8 → hw sc (d + 2) 175 0 [(0, (2, 192))] [] φ x (fun r ψ2 y2 => y2 = x ∧ (r = none ∧ (hw sc (d + 2) 183 0 [(0, (2, 192)), (1, (0, 58 + (φ 195 4)))] [] ψ2 x (fun r ψ3 y3 => y3 = x ∧ (∃ z3 : Int, r = some (0, z3) ∧ (hi z3 ∧ (z3 = 0 → Q (some (0, 0)) ψ3 x) ∧ (¬ z3 = 0 → hw sc (d + 2) 190 0 [(0, (2, 192)), (1, (0, 44)), (2, (0, ψ3 195 2))] [] ψ3 x (fun r ψ6 y6 => y6 = x ∧ (∃ z6 : Int, r = some (0, z6) ∧ (hi z6 ∧ (¬ z6 = 0 → hw sc (d + 2) 191 0 [(0, (2, 192)), (1, (0, 44)), (2, (0, ψ6 195 2))] [] ψ6 x (fun r ψ8 y8 => y8 = x ∧ (∃ z8 : Int, r = some (0, z8) ∧ (hi z8 ∧ (¬ z8 = 0 → hw sc (d + 3) 195 75 (jm_st1 (jm_st1 (jm_st1 [(0, (2, 192))] 1 (0, φ 195 4)) 2 (0, ψ6 192 18)) 3 (0, 0)) [] ψ8 x Q) ∧ (¬ (¬ z8 = 0) → Q (some (0, 0)) ψ8 x))))) ∧ (¬ (¬ z6 = 0) → Q (some (0, 0)) ψ6 x)))))))))))) ∧ (¬ (¬ (φ 195 4) = 8) → hw sc (d + 2) 182 0 [(0, (2, 192)), (1, (0, 4))] [] φ x (fun r ψ12 y12 => y12 = x ∧ (∃ z12 : Int, r = some (0, z12) ∧ ((z12 = 0 ∨ z12 = 1) ∧ Q (some (0, z12)) ψ12 x))))) :
    hw sc (d + 3) 195 0 [(0, (2, 192))] [] φ x Q := by
  refine hw_ald (b := 0) (e := 0) (by decide +kernel) rfl (by decide) ?_
  refine hr_gr (w := 195) (b := 12) (e := 7) 192 rfl (by decide +kernel) ?_
  refine hw_k (c := 4) (b := 0) (e := 1) (by decide +kernel) ?_
  refine hr_al (b := 0) (a0 := 0) (e := 0) (n := 99) (w := φ 195 4) 195 rfl (by decide +kernel) (by decide) (by decide) (by decide) rfl ?_
  refine hw_st (L' := (jm_st1 [(0, (2, 192))] 1 (0, φ 195 4))) (b := 1) (e := 0) (by decide +kernel) rfl ?_
  refine hw_ld (b := 1) (e := 0) (by decide +kernel) get_st1e ?_
  refine hw_k (c := 8) (b := 1) (e := 2) (by decide +kernel) ?_
  obtain ⟨hz1, hy1, ht1, hf1⟩ := H
  refine hw_if2 (a0 := 0) (b := 1) (e := 19) (by decide +kernel) hz1 hy1 (fun q => ?_) (fun q => ?_)
  · have H := ht1 q
    refine hw_ald (b := 0) (e := 0) (by decide +kernel) (get_st1 rfl (by decide) (fun q => tg2 q.2)) (by decide) ?_
    refine hr_call (a0 := 22) (b := 175) (e := 1) (nl := 4) (As := []) (R := []) 192 rfl (by decide +kernel) rfl rfl (Nat.le_of_ble_eq_true rfl) (Nat.le_of_ble_eq_true rfl) ?_
    refine hw_mono H ?_
    rintro r ψ2 y2 ⟨hyx, hr, H⟩
    subst hyx
    subst hr
    refine ⟨hnen, ?_⟩
    show hw sc (d + 3) 195 23 (jm_st1 [(0, (2, 192))] 1 (0, φ 195 4)) [] ψ2 y2 Q
    refine hw_ald (b := 0) (e := 0) (by decide +kernel) (get_st1 rfl (by decide) (fun q => tg2 q.2)) (by decide) ?_
    refine hw_k (c := 58) (b := 1) (e := 2) (by decide +kernel) ?_
    refine hw_ld (b := 1) (e := 0) (by decide +kernel) get_st1e ?_
    refine hw_bin (w := 58 + (φ 195 4)) (a0 := 0) (b := 0) (e := 0) (by decide +kernel) rfl ?_
    refine hr_call (a0 := 22) (b := 183) (e := 2) (nl := 2) (As := [(0, 58 + (φ 195 4))]) (R := []) 192 rfl (by decide +kernel) rfl rfl (Nat.le_of_ble_eq_true rfl) (Nat.le_of_ble_eq_true rfl) ?_
    refine hw_mono H ?_
    rintro r ψ3 y3 ⟨hyx, z3, hr, H⟩
    subst hyx
    subst hr
    refine ⟨hne0, ?_⟩
    show hw sc (d + 3) 195 31 (jm_st1 [(0, (2, 192))] 1 (0, φ 195 4)) [(0, z3)] ψ3 y3 Q
    obtain ⟨hz4, ht4, hf4⟩ := H
    refine hw_if (a0 := 0) (b := 0) (e := 49) (by decide +kernel) hz4 (fun q => ?_) (fun q => ?_)
    · have H := ht4 q
      refine hw_k (c := 0) (b := 0) (e := 1) (by decide +kernel) ?_
      exact hw_ret (a0 := 0) (e := 1) (by decide +kernel) (Or.inr ⟨rfl, by decide⟩) H
    · have H := hf4 q
      refine hw_ald (b := 0) (e := 0) (by decide +kernel) (get_st1 rfl (by decide) (fun q => tg2 q.2)) (by decide) ?_
      refine hw_k (c := 44) (b := 1) (e := 2) (by decide +kernel) ?_
      refine hw_ald (b := 0) (e := 0) (by decide +kernel) (get_st1 rfl (by decide) (fun q => tg2 q.2)) (by decide) ?_
      refine hr_gr (w := 195) (b := 12) (e := 7) 192 rfl (by decide +kernel) ?_
      refine hw_k (c := 2) (b := 0) (e := 1) (by decide +kernel) ?_
      refine hr_al (b := 0) (a0 := 0) (e := 0) (n := 99) (w := ψ3 195 2) 195 rfl (by decide +kernel) (by decide) (by decide) (by decide) rfl ?_
      refine hr_call (a0 := 22) (b := 190) (e := 3) (nl := 3) (As := [(0, 44), (0, ψ3 195 2)]) (R := []) 192 rfl (by decide +kernel) rfl rfl (Nat.le_of_ble_eq_true rfl) (Nat.le_of_ble_eq_true rfl) ?_
      refine hw_mono H ?_
      rintro r ψ6 y6 ⟨hyx, z6, hr, H⟩
      subst hyx
      subst hr
      refine ⟨hne0, ?_⟩
      show hw sc (d + 3) 195 46 (jm_st1 [(0, (2, 192))] 1 (0, φ 195 4)) [(0, z6)] ψ6 y6 Q
      obtain ⟨hz7, ht7, hf7⟩ := H
      refine hw_if (a0 := 0) (b := 1) (e := 51) (by decide +kernel) hz7 (fun q => ?_) (fun q => ?_)
      · have H := ht7 q
        refine hw_ald (b := 0) (e := 0) (by decide +kernel) (get_st1 rfl (by decide) (fun q => tg2 q.2)) (by decide) ?_
        refine hr_gi (w := ψ6 192 18) (b := 12) (e := 18) 192 rfl (by decide +kernel) rfl ?_
        refine hw_st (L' := (jm_st1 (jm_st1 [(0, (2, 192))] 1 (0, φ 195 4)) 2 (0, ψ6 192 18))) (b := 2) (e := 0) (by decide +kernel) rfl ?_
        refine hw_ald (b := 0) (e := 0) (by decide +kernel) (get_st1 (get_st1 rfl (by decide) (fun q => tg2 q.2)) (by decide) (fun q => absurd q.1 (by decide))) (by decide) ?_
        refine hw_k (c := 44) (b := 1) (e := 2) (by decide +kernel) ?_
        refine hw_ald (b := 0) (e := 0) (by decide +kernel) (get_st1 (get_st1 rfl (by decide) (fun q => tg2 q.2)) (by decide) (fun q => absurd q.1 (by decide))) (by decide) ?_
        refine hr_gr (w := 195) (b := 12) (e := 7) 192 rfl (by decide +kernel) ?_
        refine hw_k (c := 2) (b := 0) (e := 1) (by decide +kernel) ?_
        refine hr_al (b := 0) (a0 := 0) (e := 0) (n := 99) (w := ψ6 195 2) 195 rfl (by decide +kernel) (by decide) (by decide) (by decide) rfl ?_
        refine hr_call (a0 := 22) (b := 191) (e := 3) (nl := 3) (As := [(0, 44), (0, ψ6 195 2)]) (R := []) 192 rfl (by decide +kernel) rfl rfl (Nat.le_of_ble_eq_true rfl) (Nat.le_of_ble_eq_true rfl) ?_
        refine hw_mono H ?_
        rintro r ψ8 y8 ⟨hyx, z8, hr, H⟩
        subst hyx
        subst hr
        refine ⟨hne0, ?_⟩
        show hw sc (d + 3) 195 68 (jm_st1 (jm_st1 [(0, (2, 192))] 1 (0, φ 195 4)) 2 (0, ψ6 192 18)) [(0, z8)] ψ8 y8 Q
        obtain ⟨hz9, ht9, hf9⟩ := H
        refine hw_if (a0 := 0) (b := 1) (e := 73) (by decide +kernel) hz9 (fun q => ?_) (fun q => ?_)
        · have H := ht9 q
          refine hw_k (c := 0) (b := 0) (e := 1) (by decide +kernel) ?_
          refine hw_st (L' := (jm_st1 (jm_st1 (jm_st1 [(0, (2, 192))] 1 (0, φ 195 4)) 2 (0, ψ6 192 18)) 3 (0, 0))) (b := 3) (e := 0) (by decide +kernel) rfl ?_
          exact H
        · have H := hf9 q
          refine hw_k (c := 0) (b := 0) (e := 1) (by decide +kernel) ?_
          exact hw_ret (a0 := 0) (e := 1) (by decide +kernel) (Or.inr ⟨rfl, by decide⟩) H
      · have H := hf7 q
        refine hw_k (c := 0) (b := 0) (e := 1) (by decide +kernel) ?_
        exact hw_ret (a0 := 0) (e := 1) (by decide +kernel) (Or.inr ⟨rfl, by decide⟩) H
  · have H := hf1 q
    refine hw_ald (b := 0) (e := 0) (by decide +kernel) (get_st1 rfl (by decide) (fun q => tg2 q.2)) (by decide) ?_
    refine hw_k (c := 4) (b := 0) (e := 1) (by decide +kernel) ?_
    refine hr_call (a0 := 22) (b := 182) (e := 2) (nl := 2) (As := [(0, 4)]) (R := []) 192 rfl (by decide +kernel) rfl rfl (Nat.le_of_ble_eq_true rfl) (Nat.le_of_ble_eq_true rfl) ?_
    refine hw_mono H ?_
    rintro r ψ12 y12 ⟨hyx, z12, hr, H⟩
    subst hyx
    subst hr
    refine ⟨hne0, ?_⟩
    show hw sc (d + 3) 195 18 (jm_st1 [(0, (2, 192))] 1 (0, φ 195 4)) [(0, z12)] ψ12 y12 Q
    exact hw_ret (a0 := 0) (e := 1) (by decide +kernel) (Or.inr ⟨rfl, H.1⟩) H.2
theorem sf_195_192 {sc : List Int} {d : Nat} {φ : hf_F} {x : Nat} {Q : Option jm_V → hf_F → Nat → Prop}  (hI : Inv φ)  (hQ : ∀ (r : Int) (ψ : hf_F), Inv ψ → Fr [195, 197, 193004, 193011, 193012, 193013, 193014, 193015, 193016, 193017, 193018] φ ψ → 0 ≤ r ∧ r ≤ 1 ∧ (φ 192 4 ≤ ψ 192 4 ∧ (r = 1 → ψ 192 11 = 3 → φ 192 4 < ψ 192 4)) → F_RideLawsModel_readLaw_192 φ = (r, ψ) → Q (some (0, r)) ψ x) : hw sc (d + 3) 195 0 [(0, (2, 192))] [] φ x Q := by
  apply sf_195_192_v
  have e0 : F_RideLawsModel_readLaw_192 φ = _ := rfl
  have f1 := iv_at (a := 195) (k := 4) (lo := 0) (u := 8) hI (by decide +kernel)
  refine ⟨by unfold hi; omega, by unfold hi; omega, fun q1 => ?_, fun q1 => ?_⟩
  · skip
    have e1a := e0.trans (if_pos q1)
    refine sf_175_192 (φ := φ) hI  (fun ψ2 hI2 hF2 hV2 hE2 => ⟨rfl, rfl, ?_⟩)
    have hG2 : Fr [195, 197, 193004, 193011, 193012, 193013, 193014, 193015, 193016, 193017, 193018] φ ψ2 := fr_tr (fr_rf) hF2 (by decide)
    have f2 := iv_at (a := 192) (k := 18) (lo := (-1 : Int)) (u := 999) hI (by decide +kernel)
    have f3 := iv_at (a := 192) (k := 30) (lo := 0) (u := 40) hI (by decide +kernel)
    have f4 := iv_at (a := 192) (k := 34) (lo := 0) (u := 45) hI (by decide +kernel)
    have f5 := iv_at (a := 192) (k := 35) (lo := 0) (u := 20) hI (by decide +kernel)
    have f6 := iv_at (a := 192) (k := 36) (lo := 0) (u := 45) hI (by decide +kernel)
    have f7 := iv_at (a := 192) (k := 38) (lo := 0) (u := 1) hI (by decide +kernel)
    have f8 := iv_at (a := 192) (k := 4) (lo := 0) (u := 940) hI (by decide +kernel)
    have f9 := iv_at (a := 192) (k := 11) (lo := 0) (u := 4) hI2 (by decide +kernel)
    have f10 := iv_at (a := 192) (k := 18) (lo := (-1 : Int)) (u := 999) hI2 (by decide +kernel)
    have f11 : ψ2 192 18 = φ 192 18 := (fr_fd hF2 192 18 (by decide))
    have f12 := iv_at (a := 192) (k := 30) (lo := 0) (u := 40) hI2 (by decide +kernel)
    have f13 : ψ2 192 30 = φ 192 30 := (fr_fd hF2 192 30 (by decide))
    have f14 := iv_at (a := 192) (k := 34) (lo := 0) (u := 45) hI2 (by decide +kernel)
    have f15 : ψ2 192 34 = φ 192 34 := (fr_fd hF2 192 34 (by decide))
    have f16 := iv_at (a := 192) (k := 35) (lo := 0) (u := 20) hI2 (by decide +kernel)
    have f17 : ψ2 192 35 = φ 192 35 := (fr_fd hF2 192 35 (by decide))
    have f18 := iv_at (a := 192) (k := 36) (lo := 0) (u := 45) hI2 (by decide +kernel)
    have f19 : ψ2 192 36 = φ 192 36 := (fr_fd hF2 192 36 (by decide))
    have f20 := iv_at (a := 192) (k := 38) (lo := 0) (u := 1) hI2 (by decide +kernel)
    have f21 : ψ2 192 38 = φ 192 38 := (fr_fd hF2 192 38 (by decide))
    have f22 := iv_at (a := 192) (k := 4) (lo := 0) (u := 940) hI2 (by decide +kernel)
    have e2 := e1a.trans (bnv_e hE2)
    refine sf_183_192 (φ := ψ2) hI2 (by omega) (by omega) (fun z3 ψ3 hI3 hF3 hp3 hE3 => ⟨rfl, z3, rfl, ?_⟩)
    have hG3 : Fr [195, 197, 193004, 193011, 193012, 193013, 193014, 193015, 193016, 193017, 193018] φ ψ3 := fr_tr hG2 hF3 (by decide)
    have f23 := iv_at (a := 192) (k := 11) (lo := 0) (u := 4) hI3 (by decide +kernel)
    have f24 := iv_at (a := 192) (k := 4) (lo := 0) (u := 940) hI3 (by decide +kernel)
    have e3 := e2.trans (bnd_e hE3)
    refine ⟨by unfold hi; omega, fun q4 => ?_, fun q4 => ?_⟩
    · skip
      have e4a := e3.trans (if_pos q4)
      exact hQ 0 ψ3 hI3 hG3 ⟨by omega, by omega, by omega⟩ e4a
    · skip
      have e4b := e3.trans (if_neg q4)
      have f25 := iv_at (a := 195) (k := 2) (lo := 0) (u := 8) hI3 (by decide +kernel)
      have f26 : ψ3 195 2 = ψ2 195 2 := (fr_at hF3 195 (by decide) 2)
      have f27 := iv_at (a := 195) (k := 2) (lo := 0) (u := 8) hI2 (by decide +kernel)
      have f28 : ψ2 195 2 = φ 195 2 := (fr_at hF2 195 (by decide) 2)
      have f29 := iv_at (a := 195) (k := 2) (lo := 0) (u := 8) hI (by decide +kernel)
      refine sf_190_192 (φ := ψ3) hI3 (by omega) (by omega) (by omega) (by omega) (by omega) (fun z6 ψ6 hI6 hF6 hp6 hE6 => ⟨rfl, z6, rfl, ?_⟩)
      have hG6 : Fr [195, 197, 193004, 193011, 193012, 193013, 193014, 193015, 193016, 193017, 193018] φ ψ6 := fr_tr hG3 hF6 (by decide)
      have f30 := iv_at (a := 192) (k := 30) (lo := 0) (u := 40) hI3 (by decide +kernel)
      have f31 : ψ3 192 30 = ψ2 192 30 := (fr_fd hF3 192 30 (by decide))
      have f32 := iv_at (a := 192) (k := 11) (lo := 0) (u := 4) hI6 (by decide +kernel)
      have f33 := iv_at (a := 192) (k := 18) (lo := (-1 : Int)) (u := 999) hI6 (by decide +kernel)
      have f34 := iv_at (a := 192) (k := 30) (lo := 0) (u := 40) hI6 (by decide +kernel)
      have f35 : ψ6 192 30 = ψ3 192 30 := (fr_fd hF6 192 30 (by decide))
      have f36 := iv_at (a := 192) (k := 4) (lo := 0) (u := 940) hI6 (by decide +kernel)
      have e6 := e4b.trans (bnd_e hE6)
      refine ⟨by unfold hi; omega, fun q7 => ?_, fun q7 => ?_⟩
      · skip
        have e7a := e6.trans (if_pos q7)
        have f37 := iv_at (a := 195) (k := 2) (lo := 0) (u := 8) hI6 (by decide +kernel)
        have f38 : ψ6 195 2 = ψ3 195 2 := (fr_at hF6 195 (by decide) 2)
        refine sf_191_192 (φ := ψ6) hI6 (by omega) (by omega) (by omega) (by omega) (by omega) (fun z8 ψ8 hI8 hF8 hp8 hE8 => ⟨rfl, z8, rfl, ?_⟩)
        have hG8 : Fr [195, 197, 193004, 193011, 193012, 193013, 193014, 193015, 193016, 193017, 193018] φ ψ8 := fr_tr hG6 hF8 (by decide)
        have f39 := iv_at (a := 192) (k := 34) (lo := 0) (u := 45) hI6 (by decide +kernel)
        have f40 : ψ6 192 34 = ψ3 192 34 := (fr_fd hF6 192 34 (by decide))
        have f41 := iv_at (a := 192) (k := 34) (lo := 0) (u := 45) hI3 (by decide +kernel)
        have f42 : ψ3 192 34 = ψ2 192 34 := (fr_fd hF3 192 34 (by decide))
        have f43 := iv_at (a := 192) (k := 35) (lo := 0) (u := 20) hI6 (by decide +kernel)
        have f44 : ψ6 192 35 = ψ3 192 35 := (fr_fd hF6 192 35 (by decide))
        have f45 := iv_at (a := 192) (k := 35) (lo := 0) (u := 20) hI3 (by decide +kernel)
        have f46 : ψ3 192 35 = ψ2 192 35 := (fr_fd hF3 192 35 (by decide))
        have f47 := iv_at (a := 192) (k := 36) (lo := 0) (u := 45) hI6 (by decide +kernel)
        have f48 : ψ6 192 36 = ψ3 192 36 := (fr_fd hF6 192 36 (by decide))
        have f49 := iv_at (a := 192) (k := 36) (lo := 0) (u := 45) hI3 (by decide +kernel)
        have f50 : ψ3 192 36 = ψ2 192 36 := (fr_fd hF3 192 36 (by decide))
        have f51 := iv_at (a := 192) (k := 38) (lo := 0) (u := 1) hI6 (by decide +kernel)
        have f52 : ψ6 192 38 = ψ3 192 38 := (fr_fd hF6 192 38 (by decide))
        have f53 := iv_at (a := 192) (k := 38) (lo := 0) (u := 1) hI3 (by decide +kernel)
        have f54 : ψ3 192 38 = ψ2 192 38 := (fr_fd hF3 192 38 (by decide))
        have f55 := iv_at (a := 192) (k := 18) (lo := (-1 : Int)) (u := 999) hI8 (by decide +kernel)
        have f56 := iv_at (a := 192) (k := 30) (lo := 0) (u := 40) hI8 (by decide +kernel)
        have f57 : ψ8 192 30 = ψ6 192 30 := (fr_fd hF8 192 30 (by decide))
        have f58 := iv_at (a := 192) (k := 34) (lo := 0) (u := 45) hI8 (by decide +kernel)
        have f59 : ψ8 192 34 = ψ6 192 34 := (fr_fd hF8 192 34 (by decide))
        have f60 := iv_at (a := 192) (k := 35) (lo := 0) (u := 20) hI8 (by decide +kernel)
        have f61 : ψ8 192 35 = ψ6 192 35 := (fr_fd hF8 192 35 (by decide))
        have f62 := iv_at (a := 192) (k := 36) (lo := 0) (u := 45) hI8 (by decide +kernel)
        have f63 : ψ8 192 36 = ψ6 192 36 := (fr_fd hF8 192 36 (by decide))
        have f64 := iv_at (a := 192) (k := 38) (lo := 0) (u := 1) hI8 (by decide +kernel)
        have f65 : ψ8 192 38 = ψ6 192 38 := (fr_fd hF8 192 38 (by decide))
        have f66 := iv_at (a := 192) (k := 4) (lo := 0) (u := 940) hI8 (by decide +kernel)
        have f67 : ψ8 192 4 = ψ6 192 4 := (fr_fd hF8 192 4 (by decide))
        have e8 := e7a.trans (bnd_e hE8)
        refine ⟨by unfold hi; omega, fun q9 => ?_, fun q9 => ?_⟩
        · skip
          have e9a := e8.trans (if_pos q9)
          have f68 := iv_at (a := 195) (k := 4) (lo := 0) (u := 8) hI8 (by decide +kernel)
          have f69 : ψ8 195 4 = ψ6 195 4 := (fr_at hF8 195 (by decide) 4)
          have f70 := iv_at (a := 195) (k := 4) (lo := 0) (u := 8) hI6 (by decide +kernel)
          have f71 : ψ6 195 4 = ψ3 195 4 := (fr_at hF6 195 (by decide) 4)
          have f72 := iv_at (a := 195) (k := 4) (lo := 0) (u := 8) hI3 (by decide +kernel)
          have f73 : ψ3 195 4 = ψ2 195 4 := (fr_at hF3 195 (by decide) 4)
          have f74 := iv_at (a := 195) (k := 4) (lo := 0) (u := 8) hI2 (by decide +kernel)
          have f75 : ψ2 195 4 = φ 195 4 := (fr_at hF2 195 (by decide) 4)
          exact sf_195_192_l75 ((8 - 0 : Int).toNat + 1) ψ8 (jm_st1 (jm_st1 (jm_st1 [(0, (2, 192))] 1 (0, φ 195 4)) 2 (0, ψ6 192 18)) 3 (0, 0)) (φ 195 4) (ψ6 192 18) 0 (get_st1 (get_st1 (get_st1 rfl (by decide) (fun q => tg2 q.2)) (by decide) (fun q => absurd q.1 (by decide))) (by decide) (fun q => absurd q.1 (by decide))) (get_st1 (get_st1 get_st1e (by decide) (fun q => tg0 q.2)) (by decide) (fun q => absurd q.1 (by decide))) (get_st1 get_st1e (by decide) (fun q => tg0 q.2)) get_st1e hI8 (by omega) (by omega) (by omega) (by omega) (by omega) (by omega) (by omega) (by omega) (by omega) (by omega) (fun rr χ hIχ hFχ hpχ hEχ => hQ rr χ hIχ (fr_tr hG8 hFχ (by decide)) (by omega) (e9a.trans hEχ))
        · skip
          have e9b := e8.trans (if_neg q9)
          have f76 := iv_at (a := 192) (k := 11) (lo := 0) (u := 4) hI8 (by decide +kernel)
          have f77 : ψ8 192 11 = ψ6 192 11 := (fr_fd hF8 192 11 (by decide))
          exact hQ 0 ψ8 hI8 hG8 ⟨by omega, by omega, by omega⟩ e9b
      · skip
        have e7b := e6.trans (if_neg q7)
        exact hQ 0 ψ6 hI6 hG6 ⟨by omega, by omega, by omega⟩ e7b
  · skip
    have e1b := e0.trans (if_neg q1)
    refine sf_182_192 (φ := φ) hI (by omega) (by omega) (fun z12 ψ12 hI12 hF12 hp12 hE12 => ⟨rfl, z12, rfl, ?_⟩)
    have hG12 : Fr [195, 197, 193004, 193011, 193012, 193013, 193014, 193015, 193016, 193017, 193018] φ ψ12 := fr_tr (fr_rf) hF12 (by decide)
    have f78 := iv_at (a := 192) (k := 30) (lo := 0) (u := 40) hI (by decide +kernel)
    have f79 := iv_at (a := 192) (k := 4) (lo := 0) (u := 940) hI (by decide +kernel)
    have f80 := iv_at (a := 192) (k := 30) (lo := 0) (u := 40) hI12 (by decide +kernel)
    have f81 : ψ12 192 30 = φ 192 30 := (fr_fd hF12 192 30 (by decide))
    have f82 := iv_at (a := 192) (k := 4) (lo := 0) (u := 940) hI12 (by decide +kernel)
    have f83 : ψ12 192 4 = φ 192 4 := (fr_fd hF12 192 4 (by decide))
    have e12 := e1b.trans (bnd_e hE12)
    have f84 := iv_at (a := 192) (k := 11) (lo := 0) (u := 4) hI12 (by decide +kernel)
    have f85 : ψ12 192 11 = φ 192 11 := (fr_fd hF12 192 11 (by decide))
    have f86 := iv_at (a := 192) (k := 11) (lo := 0) (u := 4) hI (by decide +kernel)
    refine ⟨by omega, ?_⟩
    exact hQ z12 ψ12 hI12 hG12 ⟨by omega, by omega, by omega⟩ e12
theorem sf_196_192_v {sc : List Int} {d : Nat} {φ : hf_F} {x : Nat} {Q : Option jm_V → hf_F → Nat → Prop} 
    (H : hw sc (d + 2) 175 0 [(0, (2, 192))] [] φ x (fun r ψ1 y1 => y1 = x ∧ (r = none ∧ (hw sc (d + 2) 190 0 [(0, (2, 192)), (1, (0, 58)), (2, (0, ψ1 195 4))] [] ψ1 x (fun r ψ2 y2 => y2 = x ∧ (∃ z2 : Int, r = some (0, z2) ∧ (hi z2 ∧ (¬ z2 = 0 → hw sc (d + 2) 191 0 [(0, (2, 192)), (1, (0, 58)), (2, (0, ψ2 195 4))] [] ψ2 x (fun r ψ4 y4 => y4 = x ∧ (∃ z4 : Int, r = some (0, z4) ∧ (hi z4 ∧ (¬ z4 = 0 → hi (ψ4 192 18) ∧ hi (ψ2 192 18) ∧ ((ψ4 192 18) = (ψ2 192 18) → hw sc (d + 2) 182 0 [(0, (2, 192)), (1, (0, 3))] [] ψ4 x (fun r ψ7 y7 => y7 = x ∧ (∃ z7 : Int, r = some (0, z7) ∧ ((z7 = 0 ∨ z7 = 1) ∧ Q (some (0, z7)) ψ7 x)))) ∧ (¬ (ψ4 192 18) = (ψ2 192 18) → 0 ≤ (91 + (ψ2 192 18)) ∧ (91 + (ψ2 192 18)) < 99 ∧ (hw sc (d + 2) 197 0 [(0, (0, ψ4 195 ((91 + (ψ2 192 18)).toNat))), (1, (0, ψ4 192 18))] [] ψ4 x (fun r ψ10 y10 => y10 = x ∧ ψ4 = ψ10 ∧ (∃ z10 : Int, r = some (0, z10) ∧ (hi z10 ∧ (z10 = 0 → 0 ≤ (91 + (ψ2 192 18)) ∧ (91 + (ψ2 192 18)) < 99 ∧ (0 ≤ (91 + (ψ2 192 18)) ∧ (91 + (ψ2 192 18)) < 99 ∧ (0 ≤ (91 + (ψ4 192 18)) ∧ (91 + (ψ4 192 18)) < 99 ∧ (0 ≤ (91 + (ψ4 192 18)) ∧ (91 + (ψ4 192 18)) < 99 ∧ (hw sc (d + 2) 175 0 [(0, (2, 192))] [] (hf_up (hf_up ψ4 195 ((91 + (ψ2 192 18)).toNat) (hb_or (ψ4 195 ((91 + (ψ2 192 18)).toNat)) (hb_shl 1 (ψ4 192 18)))) 195 ((91 + (ψ4 192 18)).toNat) (hb_or ((hf_up ψ4 195 ((91 + (ψ2 192 18)).toNat) (hb_or (ψ4 195 ((91 + (ψ2 192 18)).toNat)) (hb_shl 1 (ψ4 192 18)))) 195 ((91 + (ψ4 192 18)).toNat)) (hb_shl 1 (ψ2 192 18)))) x (fun r ψ16 y16 => y16 = x ∧ (r = none ∧ (Q (some (0, 1)) ψ16 x)))))))) ∧ (¬ z10 = 0 → hw sc (d + 2) 182 0 [(0, (2, 192)), (1, (0, 3))] [] ψ4 x (fun r ψ18 y18 => y18 = x ∧ (∃ z18 : Int, r = some (0, z18) ∧ ((z18 = 0 ∨ z18 = 1) ∧ Q (some (0, z18)) ψ18 x)))))))))) ∧ (¬ (¬ z4 = 0) → Q (some (0, 0)) ψ4 x))))) ∧ (¬ (¬ z2 = 0) → Q (some (0, 0)) ψ2 x)))))))) :
    hw sc (d + 3) 196 0 [(0, (2, 192))] [] φ x Q := by
  refine hw_ald (b := 0) (e := 0) (by decide +kernel) rfl (by decide) ?_
  refine hr_call (a0 := 22) (b := 175) (e := 1) (nl := 4) (As := []) (R := []) 192 rfl (by decide +kernel) rfl rfl (Nat.le_of_ble_eq_true rfl) (Nat.le_of_ble_eq_true rfl) ?_
  refine hw_mono H ?_
  rintro r ψ1 y1 ⟨hyx, hr, H⟩
  subst hyx
  subst hr
  refine ⟨hnen, ?_⟩
  show hw sc (d + 3) 196 4 [(0, (2, 192))] [] ψ1 y1 Q
  refine hw_ald (b := 0) (e := 0) (by decide +kernel) rfl (by decide) ?_
  refine hw_k (c := 58) (b := 1) (e := 2) (by decide +kernel) ?_
  refine hw_ald (b := 0) (e := 0) (by decide +kernel) rfl (by decide) ?_
  refine hr_gr (w := 195) (b := 12) (e := 7) 192 rfl (by decide +kernel) ?_
  refine hw_k (c := 4) (b := 0) (e := 1) (by decide +kernel) ?_
  refine hr_al (b := 0) (a0 := 0) (e := 0) (n := 99) (w := ψ1 195 4) 195 rfl (by decide +kernel) (by decide) (by decide) (by decide) rfl ?_
  refine hr_call (a0 := 22) (b := 190) (e := 3) (nl := 3) (As := [(0, 58), (0, ψ1 195 4)]) (R := []) 192 rfl (by decide +kernel) rfl rfl (Nat.le_of_ble_eq_true rfl) (Nat.le_of_ble_eq_true rfl) ?_
  refine hw_mono H ?_
  rintro r ψ2 y2 ⟨hyx, z2, hr, H⟩
  subst hyx
  subst hr
  refine ⟨hne0, ?_⟩
  show hw sc (d + 3) 196 16 [(0, (2, 192))] [(0, z2)] ψ2 y2 Q
  obtain ⟨hz3, ht3, hf3⟩ := H
  refine hw_if (a0 := 0) (b := 1) (e := 21) (by decide +kernel) hz3 (fun q => ?_) (fun q => ?_)
  · have H := ht3 q
    refine hw_ald (b := 0) (e := 0) (by decide +kernel) rfl (by decide) ?_
    refine hr_gi (w := ψ2 192 18) (b := 12) (e := 18) 192 rfl (by decide +kernel) rfl ?_
    refine hw_st (L' := (jm_st1 [(0, (2, 192))] 1 (0, ψ2 192 18))) (b := 1) (e := 0) (by decide +kernel) rfl ?_
    refine hw_ald (b := 0) (e := 0) (by decide +kernel) (get_st1 rfl (by decide) (fun q => tg2 q.2)) (by decide) ?_
    refine hw_k (c := 58) (b := 1) (e := 2) (by decide +kernel) ?_
    refine hw_ald (b := 0) (e := 0) (by decide +kernel) (get_st1 rfl (by decide) (fun q => tg2 q.2)) (by decide) ?_
    refine hr_gr (w := 195) (b := 12) (e := 7) 192 rfl (by decide +kernel) ?_
    refine hw_k (c := 4) (b := 0) (e := 1) (by decide +kernel) ?_
    refine hr_al (b := 0) (a0 := 0) (e := 0) (n := 99) (w := ψ2 195 4) 195 rfl (by decide +kernel) (by decide) (by decide) (by decide) rfl ?_
    refine hr_call (a0 := 22) (b := 191) (e := 3) (nl := 3) (As := [(0, 58), (0, ψ2 195 4)]) (R := []) 192 rfl (by decide +kernel) rfl rfl (Nat.le_of_ble_eq_true rfl) (Nat.le_of_ble_eq_true rfl) ?_
    refine hw_mono H ?_
    rintro r ψ4 y4 ⟨hyx, z4, hr, H⟩
    subst hyx
    subst hr
    refine ⟨hne0, ?_⟩
    show hw sc (d + 3) 196 38 (jm_st1 [(0, (2, 192))] 1 (0, ψ2 192 18)) [(0, z4)] ψ4 y4 Q
    obtain ⟨hz5, ht5, hf5⟩ := H
    refine hw_if (a0 := 0) (b := 1) (e := 43) (by decide +kernel) hz5 (fun q => ?_) (fun q => ?_)
    · have H := ht5 q
      refine hw_ald (b := 0) (e := 0) (by decide +kernel) (get_st1 rfl (by decide) (fun q => tg2 q.2)) (by decide) ?_
      refine hr_gi (w := ψ4 192 18) (b := 12) (e := 18) 192 rfl (by decide +kernel) rfl ?_
      refine hw_ld (b := 1) (e := 0) (by decide +kernel) get_st1e ?_
      obtain ⟨hz6, hy6, ht6, hf6⟩ := H
      refine hw_if2 (a0 := 0) (b := 0) (e := 70) (by decide +kernel) hz6 hy6 (fun q => ?_) (fun q => ?_)
      · have H := ht6 q
        refine hw_ald (b := 0) (e := 0) (by decide +kernel) (get_st1 rfl (by decide) (fun q => tg2 q.2)) (by decide) ?_
        refine hw_k (c := 3) (b := 0) (e := 1) (by decide +kernel) ?_
        refine hr_call (a0 := 22) (b := 182) (e := 2) (nl := 2) (As := [(0, 3)]) (R := []) 192 rfl (by decide +kernel) rfl rfl (Nat.le_of_ble_eq_true rfl) (Nat.le_of_ble_eq_true rfl) ?_
        refine hw_mono H ?_
        rintro r ψ7 y7 ⟨hyx, z7, hr, H⟩
        subst hyx
        subst hr
        refine ⟨hne0, ?_⟩
        show hw sc (d + 3) 196 75 (jm_st1 [(0, (2, 192))] 1 (0, ψ2 192 18)) [(0, z7)] ψ7 y7 Q
        exact hw_ret (a0 := 0) (e := 1) (by decide +kernel) (Or.inr ⟨rfl, H.1⟩) H.2
      · have H := hf6 q
        refine hw_ald (b := 0) (e := 0) (by decide +kernel) (get_st1 rfl (by decide) (fun q => tg2 q.2)) (by decide) ?_
        refine hr_gr (w := 195) (b := 12) (e := 7) 192 rfl (by decide +kernel) ?_
        refine hw_k (c := 91) (b := 1) (e := 2) (by decide +kernel) ?_
        refine hw_ld (b := 1) (e := 0) (by decide +kernel) get_st1e ?_
        refine hw_bin (w := 91 + (ψ2 192 18)) (a0 := 0) (b := 0) (e := 0) (by decide +kernel) rfl ?_
        obtain ⟨hl9, hu9, H⟩ := H
        refine hr_al (b := 0) (a0 := 0) (e := 0) (n := 99) (w := ψ4 195 ((91 + (ψ2 192 18)).toNat)) 195 rfl (by decide +kernel) (by decide) hl9 hu9 rfl ?_
        refine hw_ald (b := 0) (e := 0) (by decide +kernel) (get_st1 rfl (by decide) (fun q => tg2 q.2)) (by decide) ?_
        refine hr_gi (w := ψ4 192 18) (b := 12) (e := 18) 192 rfl (by decide +kernel) rfl ?_
        refine hr_calls (b := 197) (e := 2) (nl := 2) (As := [(0, ψ4 195 ((91 + (ψ2 192 18)).toNat)), (0, ψ4 192 18)]) (R := []) (by decide +kernel) rfl rfl (Nat.le_of_ble_eq_true rfl) (Nat.le_of_ble_eq_true rfl) ?_
        refine hw_mono H ?_
        rintro r ψ10 y10 ⟨hyx, hψx, z10, hr, H⟩
        subst hyx
        subst hψx
        subst hr
        refine ⟨hne0, ?_⟩
        show hw sc (d + 3) 196 67 (jm_st1 [(0, (2, 192))] 1 (0, ψ2 192 18)) [(0, z10)] ψ4 y10 Q
        obtain ⟨hz11, ht11, hf11⟩ := H
        refine hw_if (a0 := 0) (b := 0) (e := 76) (by decide +kernel) hz11 (fun q => ?_) (fun q => ?_)
        · have H := ht11 q
          refine hw_ald (b := 0) (e := 0) (by decide +kernel) (get_st1 rfl (by decide) (fun q => tg2 q.2)) (by decide) ?_
          refine hr_gr (w := 195) (b := 12) (e := 7) 192 rfl (by decide +kernel) ?_
          refine hw_k (c := 91) (b := 1) (e := 2) (by decide +kernel) ?_
          refine hw_ld (b := 1) (e := 0) (by decide +kernel) get_st1e ?_
          refine hw_bin (w := 91 + (ψ2 192 18)) (a0 := 0) (b := 0) (e := 0) (by decide +kernel) rfl ?_
          refine hw_dup2 (a0 := 0) (e := 0) (by decide +kernel) (by decide) (by decide) ?_
          obtain ⟨hl12, hu12, H⟩ := H
          refine hr_al (b := 0) (a0 := 0) (e := 0) (n := 99) (w := ψ4 195 ((91 + (ψ2 192 18)).toNat)) 195 rfl (by decide +kernel) (by decide) hl12 hu12 rfl ?_
          refine hw_k (c := 1) (b := 0) (e := 1) (by decide +kernel) ?_
          refine hw_ald (b := 0) (e := 0) (by decide +kernel) (get_st1 rfl (by decide) (fun q => tg2 q.2)) (by decide) ?_
          refine hr_gi (w := ψ4 192 18) (b := 12) (e := 18) 192 rfl (by decide +kernel) rfl ?_
          refine hw_bin (w := hb_shl 1 (ψ4 192 18)) (a0 := 0) (b := 6) (e := 0) (by decide +kernel) rfl ?_
          refine hw_bin (w := hb_or (ψ4 195 ((91 + (ψ2 192 18)).toNat)) (hb_shl 1 (ψ4 192 18))) (a0 := 0) (b := 4) (e := 0) (by decide +kernel) rfl ?_
          obtain ⟨hl13, hu13, H⟩ := H
          refine hr_as (a0 := 0) (e := 4) (n := 99) 195 rfl (by decide +kernel) hl13 hu13 ?_
          refine hw_ald (b := 0) (e := 0) (by decide +kernel) (get_st1 rfl (by decide) (fun q => tg2 q.2)) (by decide) ?_
          refine hr_gr (w := 195) (b := 12) (e := 7) 192 rfl (by decide +kernel) ?_
          refine hw_k (c := 91) (b := 1) (e := 2) (by decide +kernel) ?_
          refine hw_ald (b := 0) (e := 0) (by decide +kernel) (get_st1 rfl (by decide) (fun q => tg2 q.2)) (by decide) ?_
          refine hr_gi (w := ψ4 192 18) (b := 12) (e := 18) 192 rfl (by decide +kernel) (hf_up_ne (fun q => absurd q.1 (by decide))) ?_
          refine hw_bin (w := 91 + (ψ4 192 18)) (a0 := 0) (b := 0) (e := 0) (by decide +kernel) rfl ?_
          refine hw_dup2 (a0 := 0) (e := 0) (by decide +kernel) (by decide) (by decide) ?_
          obtain ⟨hl14, hu14, H⟩ := H
          refine hr_al (b := 0) (a0 := 0) (e := 0) (n := 99) (w := (hf_up ψ4 195 ((91 + (ψ2 192 18)).toNat) (hb_or (ψ4 195 ((91 + (ψ2 192 18)).toNat)) (hb_shl 1 (ψ4 192 18)))) 195 ((91 + (ψ4 192 18)).toNat)) 195 rfl (by decide +kernel) (by decide) hl14 hu14 rfl ?_
          refine hw_k (c := 1) (b := 0) (e := 1) (by decide +kernel) ?_
          refine hw_ld (b := 1) (e := 0) (by decide +kernel) get_st1e ?_
          refine hw_bin (w := hb_shl 1 (ψ2 192 18)) (a0 := 0) (b := 6) (e := 0) (by decide +kernel) rfl ?_
          refine hw_bin (w := hb_or ((hf_up ψ4 195 ((91 + (ψ2 192 18)).toNat) (hb_or (ψ4 195 ((91 + (ψ2 192 18)).toNat)) (hb_shl 1 (ψ4 192 18)))) 195 ((91 + (ψ4 192 18)).toNat)) (hb_shl 1 (ψ2 192 18))) (a0 := 0) (b := 4) (e := 0) (by decide +kernel) rfl ?_
          obtain ⟨hl15, hu15, H⟩ := H
          refine hr_as (a0 := 0) (e := 4) (n := 99) 195 rfl (by decide +kernel) hl15 hu15 ?_
          refine hw_ald (b := 0) (e := 0) (by decide +kernel) (get_st1 rfl (by decide) (fun q => tg2 q.2)) (by decide) ?_
          refine hr_call (a0 := 22) (b := 175) (e := 1) (nl := 4) (As := []) (R := []) 192 rfl (by decide +kernel) rfl rfl (Nat.le_of_ble_eq_true rfl) (Nat.le_of_ble_eq_true rfl) ?_
          refine hw_mono H ?_
          rintro r ψ16 y16 ⟨hyx, hr, H⟩
          subst hyx
          subst hr
          refine ⟨hnen, ?_⟩
          show hw sc (d + 3) 196 116 (jm_st1 [(0, (2, 192))] 1 (0, ψ2 192 18)) [] ψ16 y16 Q
          refine hw_k (c := 1) (b := 0) (e := 1) (by decide +kernel) ?_
          exact hw_ret (a0 := 0) (e := 1) (by decide +kernel) (Or.inr ⟨rfl, by decide⟩) H
        · have H := hf11 q
          refine hw_ald (b := 0) (e := 0) (by decide +kernel) (get_st1 rfl (by decide) (fun q => tg2 q.2)) (by decide) ?_
          refine hw_k (c := 3) (b := 0) (e := 1) (by decide +kernel) ?_
          refine hr_call (a0 := 22) (b := 182) (e := 2) (nl := 2) (As := [(0, 3)]) (R := []) 192 rfl (by decide +kernel) rfl rfl (Nat.le_of_ble_eq_true rfl) (Nat.le_of_ble_eq_true rfl) ?_
          refine hw_mono H ?_
          rintro r ψ18 y18 ⟨hyx, z18, hr, H⟩
          subst hyx
          subst hr
          refine ⟨hne0, ?_⟩
          show hw sc (d + 3) 196 75 (jm_st1 [(0, (2, 192))] 1 (0, ψ2 192 18)) [(0, z18)] ψ18 y18 Q
          exact hw_ret (a0 := 0) (e := 1) (by decide +kernel) (Or.inr ⟨rfl, H.1⟩) H.2
    · have H := hf5 q
      refine hw_k (c := 0) (b := 0) (e := 1) (by decide +kernel) ?_
      exact hw_ret (a0 := 0) (e := 1) (by decide +kernel) (Or.inr ⟨rfl, by decide⟩) H
  · have H := hf3 q
    refine hw_k (c := 0) (b := 0) (e := 1) (by decide +kernel) ?_
    exact hw_ret (a0 := 0) (e := 1) (by decide +kernel) (Or.inr ⟨rfl, by decide⟩) H
theorem sf_196_192 {sc : List Int} {d : Nat} {φ : hf_F} {x : Nat} {Q : Option jm_V → hf_F → Nat → Prop}  (hI : Inv φ)  (hQ : ∀ (r : Int) (ψ : hf_F), Inv ψ → Fr [195, 193004, 193011, 193012, 193013, 193014, 193015, 193016, 193017, 193018] φ ψ → 0 ≤ r ∧ r ≤ 1 ∧ (φ 192 4 ≤ ψ 192 4 ∧ (r = 1 → ψ 192 11 = 3 → φ 192 4 < ψ 192 4)) → F_RideLawsModel_readClash_192 φ = (r, ψ) → Q (some (0, r)) ψ x) : hw sc (d + 3) 196 0 [(0, (2, 192))] [] φ x Q := by
  apply sf_196_192_v
  have e0 : F_RideLawsModel_readClash_192 φ = _ := rfl
  refine sf_175_192 (φ := φ) hI  (fun ψ1 hI1 hF1 hV1 hE1 => ⟨rfl, rfl, ?_⟩)
  have hG1 : Fr [195, 193004, 193011, 193012, 193013, 193014, 193015, 193016, 193017, 193018] φ ψ1 := fr_tr (fr_rf) hF1 (by decide)
  have f1 := iv_at (a := 192) (k := 18) (lo := (-1 : Int)) (u := 999) hI (by decide +kernel)
  have f2 := iv_at (a := 192) (k := 30) (lo := 0) (u := 40) hI (by decide +kernel)
  have f3 := iv_at (a := 192) (k := 34) (lo := 0) (u := 45) hI (by decide +kernel)
  have f4 := iv_at (a := 192) (k := 35) (lo := 0) (u := 20) hI (by decide +kernel)
  have f5 := iv_at (a := 192) (k := 36) (lo := 0) (u := 45) hI (by decide +kernel)
  have f6 := iv_at (a := 192) (k := 38) (lo := 0) (u := 1) hI (by decide +kernel)
  have f7 := iv_at (a := 192) (k := 4) (lo := 0) (u := 940) hI (by decide +kernel)
  have f8 := iv_at (a := 192) (k := 11) (lo := 0) (u := 4) hI1 (by decide +kernel)
  have f9 := iv_at (a := 192) (k := 18) (lo := (-1 : Int)) (u := 999) hI1 (by decide +kernel)
  have f10 : ψ1 192 18 = φ 192 18 := (fr_fd hF1 192 18 (by decide))
  have f11 := iv_at (a := 192) (k := 30) (lo := 0) (u := 40) hI1 (by decide +kernel)
  have f12 : ψ1 192 30 = φ 192 30 := (fr_fd hF1 192 30 (by decide))
  have f13 := iv_at (a := 192) (k := 34) (lo := 0) (u := 45) hI1 (by decide +kernel)
  have f14 : ψ1 192 34 = φ 192 34 := (fr_fd hF1 192 34 (by decide))
  have f15 := iv_at (a := 192) (k := 35) (lo := 0) (u := 20) hI1 (by decide +kernel)
  have f16 : ψ1 192 35 = φ 192 35 := (fr_fd hF1 192 35 (by decide))
  have f17 := iv_at (a := 192) (k := 36) (lo := 0) (u := 45) hI1 (by decide +kernel)
  have f18 : ψ1 192 36 = φ 192 36 := (fr_fd hF1 192 36 (by decide))
  have f19 := iv_at (a := 192) (k := 38) (lo := 0) (u := 1) hI1 (by decide +kernel)
  have f20 : ψ1 192 38 = φ 192 38 := (fr_fd hF1 192 38 (by decide))
  have f21 := iv_at (a := 192) (k := 4) (lo := 0) (u := 940) hI1 (by decide +kernel)
  have e1 := e0.trans (bnv_e hE1)
  have f22 := iv_at (a := 195) (k := 4) (lo := 0) (u := 8) hI1 (by decide +kernel)
  have f23 : ψ1 195 4 = φ 195 4 := (fr_at hF1 195 (by decide) 4)
  have f24 := iv_at (a := 195) (k := 4) (lo := 0) (u := 8) hI (by decide +kernel)
  refine sf_190_192 (φ := ψ1) hI1 (by omega) (by omega) (by omega) (by omega) (by omega) (fun z2 ψ2 hI2 hF2 hp2 hE2 => ⟨rfl, z2, rfl, ?_⟩)
  have hG2 : Fr [195, 193004, 193011, 193012, 193013, 193014, 193015, 193016, 193017, 193018] φ ψ2 := fr_tr hG1 hF2 (by decide)
  have f25 := iv_at (a := 192) (k := 11) (lo := 0) (u := 4) hI2 (by decide +kernel)
  have f26 := iv_at (a := 192) (k := 18) (lo := (-1 : Int)) (u := 999) hI2 (by decide +kernel)
  have f27 := iv_at (a := 192) (k := 30) (lo := 0) (u := 40) hI2 (by decide +kernel)
  have f28 : ψ2 192 30 = ψ1 192 30 := (fr_fd hF2 192 30 (by decide))
  have f29 := iv_at (a := 192) (k := 4) (lo := 0) (u := 940) hI2 (by decide +kernel)
  have e2 := e1.trans (bnd_e hE2)
  refine ⟨by unfold hi; omega, fun q3 => ?_, fun q3 => ?_⟩
  · skip
    have e3a := e2.trans (if_pos q3)
    have f30 := iv_at (a := 195) (k := 4) (lo := 0) (u := 8) hI2 (by decide +kernel)
    have f31 : ψ2 195 4 = ψ1 195 4 := (fr_at hF2 195 (by decide) 4)
    refine sf_191_192 (φ := ψ2) hI2 (by omega) (by omega) (by omega) (by omega) (by omega) (fun z4 ψ4 hI4 hF4 hp4 hE4 => ⟨rfl, z4, rfl, ?_⟩)
    have hG4 : Fr [195, 193004, 193011, 193012, 193013, 193014, 193015, 193016, 193017, 193018] φ ψ4 := fr_tr hG2 hF4 (by decide)
    have f32 := iv_at (a := 192) (k := 34) (lo := 0) (u := 45) hI2 (by decide +kernel)
    have f33 : ψ2 192 34 = ψ1 192 34 := (fr_fd hF2 192 34 (by decide))
    have f34 := iv_at (a := 192) (k := 35) (lo := 0) (u := 20) hI2 (by decide +kernel)
    have f35 : ψ2 192 35 = ψ1 192 35 := (fr_fd hF2 192 35 (by decide))
    have f36 := iv_at (a := 192) (k := 36) (lo := 0) (u := 45) hI2 (by decide +kernel)
    have f37 : ψ2 192 36 = ψ1 192 36 := (fr_fd hF2 192 36 (by decide))
    have f38 := iv_at (a := 192) (k := 38) (lo := 0) (u := 1) hI2 (by decide +kernel)
    have f39 : ψ2 192 38 = ψ1 192 38 := (fr_fd hF2 192 38 (by decide))
    have f40 := iv_at (a := 192) (k := 18) (lo := (-1 : Int)) (u := 999) hI4 (by decide +kernel)
    have f41 := iv_at (a := 192) (k := 30) (lo := 0) (u := 40) hI4 (by decide +kernel)
    have f42 : ψ4 192 30 = ψ2 192 30 := (fr_fd hF4 192 30 (by decide))
    have f43 := iv_at (a := 192) (k := 34) (lo := 0) (u := 45) hI4 (by decide +kernel)
    have f44 : ψ4 192 34 = ψ2 192 34 := (fr_fd hF4 192 34 (by decide))
    have f45 := iv_at (a := 192) (k := 35) (lo := 0) (u := 20) hI4 (by decide +kernel)
    have f46 : ψ4 192 35 = ψ2 192 35 := (fr_fd hF4 192 35 (by decide))
    have f47 := iv_at (a := 192) (k := 36) (lo := 0) (u := 45) hI4 (by decide +kernel)
    have f48 : ψ4 192 36 = ψ2 192 36 := (fr_fd hF4 192 36 (by decide))
    have f49 := iv_at (a := 192) (k := 38) (lo := 0) (u := 1) hI4 (by decide +kernel)
    have f50 : ψ4 192 38 = ψ2 192 38 := (fr_fd hF4 192 38 (by decide))
    have f51 := iv_at (a := 192) (k := 4) (lo := 0) (u := 940) hI4 (by decide +kernel)
    have f52 : ψ4 192 4 = ψ2 192 4 := (fr_fd hF4 192 4 (by decide))
    have e4 := e3a.trans (bnd_e hE4)
    refine ⟨by unfold hi; omega, fun q5 => ?_, fun q5 => ?_⟩
    · skip
      have e5a := e4.trans (if_pos q5)
      refine ⟨by unfold hi; omega, by unfold hi; omega, fun q6 => ?_, fun q6 => ?_⟩
      · skip
        have e6a := e5a.trans (if_pos q6)
        refine sf_182_192 (φ := ψ4) hI4 (by omega) (by omega) (fun z7 ψ7 hI7 hF7 hp7 hE7 => ⟨rfl, z7, rfl, ?_⟩)
        have hG7 : Fr [195, 193004, 193011, 193012, 193013, 193014, 193015, 193016, 193017, 193018] φ ψ7 := fr_tr hG4 hF7 (by decide)
        have f53 := iv_at (a := 192) (k := 30) (lo := 0) (u := 40) hI7 (by decide +kernel)
        have f54 : ψ7 192 30 = ψ4 192 30 := (fr_fd hF7 192 30 (by decide))
        have f55 := iv_at (a := 192) (k := 4) (lo := 0) (u := 940) hI7 (by decide +kernel)
        have f56 : ψ7 192 4 = ψ4 192 4 := (fr_fd hF7 192 4 (by decide))
        have e7 := e6a.trans (bnd_e hE7)
        have f57 := iv_at (a := 192) (k := 11) (lo := 0) (u := 4) hI7 (by decide +kernel)
        have f58 : ψ7 192 11 = ψ4 192 11 := (fr_fd hF7 192 11 (by decide))
        have f59 := iv_at (a := 192) (k := 11) (lo := 0) (u := 4) hI4 (by decide +kernel)
        have f60 : ψ4 192 11 = ψ2 192 11 := (fr_fd hF4 192 11 (by decide))
        refine ⟨by omega, ?_⟩
        exact hQ z7 ψ7 hI7 hG7 ⟨by omega, by omega, by omega⟩ e7
      · skip
        have e6b := e5a.trans (if_neg q6)
        refine ⟨by omega, by omega, ?_⟩
        have f61 := iv_ar (a := 195) (s := 91) (t := 99) (lo := (-2147483648 : Int)) (u := 2147483647) (z := 91 + (ψ2 192 18)) hI4 (by decide +kernel) (by omega) (by omega)
        have f62 : ψ4 195 ((91 + (ψ2 192 18)).toNat) = ψ2 195 ((91 + (ψ2 192 18)).toNat) := (fr_at hF4 195 (by decide) ((91 + (ψ2 192 18)).toNat))
        have f63 := iv_ar (a := 195) (s := 91) (t := 99) (lo := (-2147483648 : Int)) (u := 2147483647) (z := 91 + (ψ2 192 18)) hI2 (by decide +kernel) (by omega) (by omega)
        have f64 : ψ2 195 ((91 + (ψ2 192 18)).toNat) = ψ1 195 ((91 + (ψ2 192 18)).toNat) := (fr_at hF2 195 (by decide) ((91 + (ψ2 192 18)).toNat))
        have f65 := iv_ar (a := 195) (s := 91) (t := 99) (lo := (-2147483648 : Int)) (u := 2147483647) (z := 91 + (ψ2 192 18)) hI1 (by decide +kernel) (by omega) (by omega)
        have f66 : ψ1 195 ((91 + (ψ2 192 18)).toNat) = φ 195 ((91 + (ψ2 192 18)).toNat) := (fr_at hF1 195 (by decide) ((91 + (ψ2 192 18)).toNat))
        have f67 := iv_ar (a := 195) (s := 91) (t := 99) (lo := (-2147483648 : Int)) (u := 2147483647) (z := 91 + (ψ2 192 18)) hI (by decide +kernel) (by omega) (by omega)
        refine sf_197 (φ := ψ4) hI4  (fun z10 hp10 hE10 => ⟨rfl, rfl, z10, rfl, ?_⟩)
        have e10 := e6b.trans (bnp_e hE10)
        refine ⟨by unfold hi; omega, fun q11 => ?_, fun q11 => ?_⟩
        · skip
          have e11a := e10.trans (if_pos q11)
          refine ⟨by omega, by omega, ?_⟩
          have f68 := hr_shl1 (ψ4 192 18)
          have f69 := hr_shl 1 (ψ4 192 18)
          have f70 := hr_or (ψ4 195 ((91 + (ψ2 192 18)).toNat)) (hb_shl 1 (ψ4 192 18))
          refine ⟨by omega, by omega, ?_⟩
          have i71 : Inv (hf_up ψ4 195 ((91 + (ψ2 192 18)).toNat) (hb_or (ψ4 195 ((91 + (ψ2 192 18)).toNat)) (hb_shl 1 (ψ4 192 18)))) := iv_upI (s := 91) (t := 99) (lo := (-2147483648 : Int)) (u := 2147483647) (z := 91 + (ψ2 192 18)) hI4 (by decide +kernel) (by omega) (by omega) (by omega) (by omega)
          have r71 : Fr [195, 193004, 193011, 193012, 193013, 193014, 193015, 193016, 193017, 193018] φ (hf_up ψ4 195 ((91 + (ψ2 192 18)).toNat) (hb_or (ψ4 195 ((91 + (ψ2 192 18)).toNat)) (hb_shl 1 (ψ4 192 18)))) := fr_upa hG4 (by decide)
          refine ⟨by omega, by omega, ?_⟩
          have f72 := iv_ar (a := 195) (s := 91) (t := 99) (lo := (-2147483648 : Int)) (u := 2147483647) (z := 91 + (ψ4 192 18)) i71 (by decide +kernel) (by omega) (by omega)
          have f73 := hr_shl1 (ψ2 192 18)
          have f74 := hr_shl 1 (ψ2 192 18)
          have f75 := hr_or ((hf_up ψ4 195 ((91 + (ψ2 192 18)).toNat) (hb_or (ψ4 195 ((91 + (ψ2 192 18)).toNat)) (hb_shl 1 (ψ4 192 18)))) 195 ((91 + (ψ4 192 18)).toNat)) (hb_shl 1 (ψ2 192 18))
          refine ⟨by omega, by omega, ?_⟩
          have i76 : Inv (hf_up (hf_up ψ4 195 ((91 + (ψ2 192 18)).toNat) (hb_or (ψ4 195 ((91 + (ψ2 192 18)).toNat)) (hb_shl 1 (ψ4 192 18)))) 195 ((91 + (ψ4 192 18)).toNat) (hb_or ((hf_up ψ4 195 ((91 + (ψ2 192 18)).toNat) (hb_or (ψ4 195 ((91 + (ψ2 192 18)).toNat)) (hb_shl 1 (ψ4 192 18)))) 195 ((91 + (ψ4 192 18)).toNat)) (hb_shl 1 (ψ2 192 18)))) := iv_upI (s := 91) (t := 99) (lo := (-2147483648 : Int)) (u := 2147483647) (z := 91 + (ψ4 192 18)) i71 (by decide +kernel) (by omega) (by omega) (by omega) (by omega)
          have r76 : Fr [195, 193004, 193011, 193012, 193013, 193014, 193015, 193016, 193017, 193018] φ (hf_up (hf_up ψ4 195 ((91 + (ψ2 192 18)).toNat) (hb_or (ψ4 195 ((91 + (ψ2 192 18)).toNat)) (hb_shl 1 (ψ4 192 18)))) 195 ((91 + (ψ4 192 18)).toNat) (hb_or ((hf_up ψ4 195 ((91 + (ψ2 192 18)).toNat) (hb_or (ψ4 195 ((91 + (ψ2 192 18)).toNat)) (hb_shl 1 (ψ4 192 18)))) 195 ((91 + (ψ4 192 18)).toNat)) (hb_shl 1 (ψ2 192 18)))) := fr_upa r71 (by decide)
          refine sf_175_192 (φ := (hf_up (hf_up ψ4 195 ((91 + (ψ2 192 18)).toNat) (hb_or (ψ4 195 ((91 + (ψ2 192 18)).toNat)) (hb_shl 1 (ψ4 192 18)))) 195 ((91 + (ψ4 192 18)).toNat) (hb_or ((hf_up ψ4 195 ((91 + (ψ2 192 18)).toNat) (hb_or (ψ4 195 ((91 + (ψ2 192 18)).toNat)) (hb_shl 1 (ψ4 192 18)))) 195 ((91 + (ψ4 192 18)).toNat)) (hb_shl 1 (ψ2 192 18))))) i76  (fun ψ16 hI16 hF16 hV16 hE16 => ⟨rfl, rfl, ?_⟩)
          have hG16 : Fr [195, 193004, 193011, 193012, 193013, 193014, 193015, 193016, 193017, 193018] φ ψ16 := fr_tr r76 hF16 (by decide)
          have f77 : (hf_up (hf_up ψ4 195 ((91 + (ψ2 192 18)).toNat) (hb_or (ψ4 195 ((91 + (ψ2 192 18)).toNat)) (hb_shl 1 (ψ4 192 18)))) 195 ((91 + (ψ4 192 18)).toNat) (hb_or ((hf_up ψ4 195 ((91 + (ψ2 192 18)).toNat) (hb_or (ψ4 195 ((91 + (ψ2 192 18)).toNat)) (hb_shl 1 (ψ4 192 18)))) 195 ((91 + (ψ4 192 18)).toNat)) (hb_shl 1 (ψ2 192 18)))) 192 18 = ψ4 192 18 := ((hf_up_ne (fun q => absurd q.1 (by decide))).trans (hf_up_ne (fun q => absurd q.1 (by decide))))
          have f78 : (hf_up (hf_up ψ4 195 ((91 + (ψ2 192 18)).toNat) (hb_or (ψ4 195 ((91 + (ψ2 192 18)).toNat)) (hb_shl 1 (ψ4 192 18)))) 195 ((91 + (ψ4 192 18)).toNat) (hb_or ((hf_up ψ4 195 ((91 + (ψ2 192 18)).toNat) (hb_or (ψ4 195 ((91 + (ψ2 192 18)).toNat)) (hb_shl 1 (ψ4 192 18)))) 195 ((91 + (ψ4 192 18)).toNat)) (hb_shl 1 (ψ2 192 18)))) 192 30 = ψ4 192 30 := ((hf_up_ne (fun q => absurd q.1 (by decide))).trans (hf_up_ne (fun q => absurd q.1 (by decide))))
          have f79 : (hf_up (hf_up ψ4 195 ((91 + (ψ2 192 18)).toNat) (hb_or (ψ4 195 ((91 + (ψ2 192 18)).toNat)) (hb_shl 1 (ψ4 192 18)))) 195 ((91 + (ψ4 192 18)).toNat) (hb_or ((hf_up ψ4 195 ((91 + (ψ2 192 18)).toNat) (hb_or (ψ4 195 ((91 + (ψ2 192 18)).toNat)) (hb_shl 1 (ψ4 192 18)))) 195 ((91 + (ψ4 192 18)).toNat)) (hb_shl 1 (ψ2 192 18)))) 192 34 = ψ4 192 34 := ((hf_up_ne (fun q => absurd q.1 (by decide))).trans (hf_up_ne (fun q => absurd q.1 (by decide))))
          have f80 : (hf_up (hf_up ψ4 195 ((91 + (ψ2 192 18)).toNat) (hb_or (ψ4 195 ((91 + (ψ2 192 18)).toNat)) (hb_shl 1 (ψ4 192 18)))) 195 ((91 + (ψ4 192 18)).toNat) (hb_or ((hf_up ψ4 195 ((91 + (ψ2 192 18)).toNat) (hb_or (ψ4 195 ((91 + (ψ2 192 18)).toNat)) (hb_shl 1 (ψ4 192 18)))) 195 ((91 + (ψ4 192 18)).toNat)) (hb_shl 1 (ψ2 192 18)))) 192 35 = ψ4 192 35 := ((hf_up_ne (fun q => absurd q.1 (by decide))).trans (hf_up_ne (fun q => absurd q.1 (by decide))))
          have f81 : (hf_up (hf_up ψ4 195 ((91 + (ψ2 192 18)).toNat) (hb_or (ψ4 195 ((91 + (ψ2 192 18)).toNat)) (hb_shl 1 (ψ4 192 18)))) 195 ((91 + (ψ4 192 18)).toNat) (hb_or ((hf_up ψ4 195 ((91 + (ψ2 192 18)).toNat) (hb_or (ψ4 195 ((91 + (ψ2 192 18)).toNat)) (hb_shl 1 (ψ4 192 18)))) 195 ((91 + (ψ4 192 18)).toNat)) (hb_shl 1 (ψ2 192 18)))) 192 36 = ψ4 192 36 := ((hf_up_ne (fun q => absurd q.1 (by decide))).trans (hf_up_ne (fun q => absurd q.1 (by decide))))
          have f82 : (hf_up (hf_up ψ4 195 ((91 + (ψ2 192 18)).toNat) (hb_or (ψ4 195 ((91 + (ψ2 192 18)).toNat)) (hb_shl 1 (ψ4 192 18)))) 195 ((91 + (ψ4 192 18)).toNat) (hb_or ((hf_up ψ4 195 ((91 + (ψ2 192 18)).toNat) (hb_or (ψ4 195 ((91 + (ψ2 192 18)).toNat)) (hb_shl 1 (ψ4 192 18)))) 195 ((91 + (ψ4 192 18)).toNat)) (hb_shl 1 (ψ2 192 18)))) 192 38 = ψ4 192 38 := ((hf_up_ne (fun q => absurd q.1 (by decide))).trans (hf_up_ne (fun q => absurd q.1 (by decide))))
          have f83 : (hf_up (hf_up ψ4 195 ((91 + (ψ2 192 18)).toNat) (hb_or (ψ4 195 ((91 + (ψ2 192 18)).toNat)) (hb_shl 1 (ψ4 192 18)))) 195 ((91 + (ψ4 192 18)).toNat) (hb_or ((hf_up ψ4 195 ((91 + (ψ2 192 18)).toNat) (hb_or (ψ4 195 ((91 + (ψ2 192 18)).toNat)) (hb_shl 1 (ψ4 192 18)))) 195 ((91 + (ψ4 192 18)).toNat)) (hb_shl 1 (ψ2 192 18)))) 192 4 = ψ4 192 4 := ((hf_up_ne (fun q => absurd q.1 (by decide))).trans (hf_up_ne (fun q => absurd q.1 (by decide))))
          have f84 := iv_at (a := 192) (k := 11) (lo := 0) (u := 4) hI16 (by decide +kernel)
          have f85 := iv_at (a := 192) (k := 18) (lo := (-1 : Int)) (u := 999) hI16 (by decide +kernel)
          have f86 : ψ16 192 18 = ψ4 192 18 := (fr_fd hF16 192 18 (by decide)).trans ((hf_up_ne (fun q => absurd q.1 (by decide))).trans (hf_up_ne (fun q => absurd q.1 (by decide))))
          have f87 := iv_at (a := 192) (k := 30) (lo := 0) (u := 40) hI16 (by decide +kernel)
          have f88 : ψ16 192 30 = ψ4 192 30 := (fr_fd hF16 192 30 (by decide)).trans ((hf_up_ne (fun q => absurd q.1 (by decide))).trans (hf_up_ne (fun q => absurd q.1 (by decide))))
          have f89 := iv_at (a := 192) (k := 34) (lo := 0) (u := 45) hI16 (by decide +kernel)
          have f90 : ψ16 192 34 = ψ4 192 34 := (fr_fd hF16 192 34 (by decide)).trans ((hf_up_ne (fun q => absurd q.1 (by decide))).trans (hf_up_ne (fun q => absurd q.1 (by decide))))
          have f91 := iv_at (a := 192) (k := 35) (lo := 0) (u := 20) hI16 (by decide +kernel)
          have f92 : ψ16 192 35 = ψ4 192 35 := (fr_fd hF16 192 35 (by decide)).trans ((hf_up_ne (fun q => absurd q.1 (by decide))).trans (hf_up_ne (fun q => absurd q.1 (by decide))))
          have f93 := iv_at (a := 192) (k := 36) (lo := 0) (u := 45) hI16 (by decide +kernel)
          have f94 : ψ16 192 36 = ψ4 192 36 := (fr_fd hF16 192 36 (by decide)).trans ((hf_up_ne (fun q => absurd q.1 (by decide))).trans (hf_up_ne (fun q => absurd q.1 (by decide))))
          have f95 := iv_at (a := 192) (k := 38) (lo := 0) (u := 1) hI16 (by decide +kernel)
          have f96 : ψ16 192 38 = ψ4 192 38 := (fr_fd hF16 192 38 (by decide)).trans ((hf_up_ne (fun q => absurd q.1 (by decide))).trans (hf_up_ne (fun q => absurd q.1 (by decide))))
          have f97 := iv_at (a := 192) (k := 4) (lo := 0) (u := 940) hI16 (by decide +kernel)
          have e16 := e11a.trans (bnv_e hE16)
          exact hQ 1 ψ16 hI16 hG16 ⟨by omega, by omega, by omega⟩ e16
        · skip
          have e11b := e10.trans (if_neg q11)
          refine sf_182_192 (φ := ψ4) hI4 (by omega) (by omega) (fun z18 ψ18 hI18 hF18 hp18 hE18 => ⟨rfl, z18, rfl, ?_⟩)
          have hG18 : Fr [195, 193004, 193011, 193012, 193013, 193014, 193015, 193016, 193017, 193018] φ ψ18 := fr_tr hG4 hF18 (by decide)
          have f98 := iv_at (a := 192) (k := 30) (lo := 0) (u := 40) hI18 (by decide +kernel)
          have f99 : ψ18 192 30 = ψ4 192 30 := (fr_fd hF18 192 30 (by decide))
          have f100 := iv_at (a := 192) (k := 4) (lo := 0) (u := 940) hI18 (by decide +kernel)
          have f101 : ψ18 192 4 = ψ4 192 4 := (fr_fd hF18 192 4 (by decide))
          have e18 := e11b.trans (bnd_e hE18)
          have f102 := iv_at (a := 192) (k := 11) (lo := 0) (u := 4) hI18 (by decide +kernel)
          have f103 : ψ18 192 11 = ψ4 192 11 := (fr_fd hF18 192 11 (by decide))
          have f104 := iv_at (a := 192) (k := 11) (lo := 0) (u := 4) hI4 (by decide +kernel)
          have f105 : ψ4 192 11 = ψ2 192 11 := (fr_fd hF4 192 11 (by decide))
          refine ⟨by omega, ?_⟩
          exact hQ z18 ψ18 hI18 hG18 ⟨by omega, by omega, by omega⟩ e18
    · skip
      have e5b := e4.trans (if_neg q5)
      have f106 := iv_at (a := 192) (k := 11) (lo := 0) (u := 4) hI4 (by decide +kernel)
      have f107 : ψ4 192 11 = ψ2 192 11 := (fr_fd hF4 192 11 (by decide))
      exact hQ 0 ψ4 hI4 hG4 ⟨by omega, by omega, by omega⟩ e5b
  · skip
    have e3b := e2.trans (if_neg q3)
    exact hQ 0 ψ2 hI2 hG2 ⟨by omega, by omega, by omega⟩ e3b
theorem sf_179_192_v {sc : List Int} {d : Nat} {φ : hf_F} {x : Nat} {Q : Option jm_V → hf_F → Nat → Prop} 
    (H : hw sc (d + 4) 180 0 [(0, (2, 192)), (1, (1, 1919512167))] [] φ x (fun r ψ1 y1 => y1 = x ∧ φ = ψ1 ∧ (∃ z1 : Int, r = some (0, z1) ∧ (hi z1 ∧ (z1 = 0 → hw sc (d + 4) 180 0 [(0, (2, 192)), (1, (1, 1936023924))] [] φ x (fun r ψ3 y3 => y3 = x ∧ φ = ψ3 ∧ (∃ z3 : Int, r = some (0, z3) ∧ (hi z3 ∧ (z3 = 0 → hw sc (d + 4) 180 0 [(0, (2, 192)), (1, (1, 2003792484))] [] φ x (fun r ψ5 y5 => y5 = x ∧ φ = ψ5 ∧ (∃ z5 : Int, r = some (0, z5) ∧ (hi z5 ∧ (z5 = 0 → hw sc (d + 4) 180 0 [(0, (2, 192)), (1, (1, 491394458994))] [] φ x (fun r ψ7 y7 => y7 = x ∧ φ = ψ7 ∧ (∃ z7 : Int, r = some (0, z7) ∧ (hi z7 ∧ (z7 = 0 → hw sc (d + 4) 180 0 [(0, (2, 192)), (1, (1, 1935767923))] [] φ x (fun r ψ9 y9 => y9 = x ∧ φ = ψ9 ∧ (∃ z9 : Int, r = some (0, z9) ∧ (hi z9 ∧ (z9 = 0 → hw sc (d + 4) 180 0 [(0, (2, 192)), (1, (1, 7102839))] [] φ x (fun r ψ11 y11 => y11 = x ∧ φ = ψ11 ∧ (∃ z11 : Int, r = some (0, z11) ∧ (hi z11 ∧ (z11 = 0 → hw sc (d + 4) 180 0 [(0, (2, 192)), (1, (1, 427020088168))] [] φ x (fun r ψ13 y13 => y13 = x ∧ φ = ψ13 ∧ (∃ z13 : Int, r = some (0, z13) ∧ (hi z13 ∧ (z13 = 0 → hw sc (d + 4) 182 0 [(0, (2, 192)), (1, (0, 1))] [] φ x (fun r ψ15 y15 => y15 = x ∧ (∃ z15 : Int, r = some (0, z15) ∧ ((z15 = 0 ∨ z15 = 1) ∧ Q (some (0, z15)) ψ15 x)))) ∧ (¬ z13 = 0 → hw sc (d + 4) 196 0 [(0, (2, 192))] [] φ x (fun r ψ17 y17 => y17 = x ∧ (∃ z17 : Int, r = some (0, z17) ∧ ((z17 = 0 ∨ z17 = 1) ∧ Q (some (0, z17)) ψ17 x)))))))) ∧ (¬ z11 = 0 → hw sc (d + 4) 195 0 [(0, (2, 192))] [] φ x (fun r ψ19 y19 => y19 = x ∧ (∃ z19 : Int, r = some (0, z19) ∧ ((z19 = 0 ∨ z19 = 1) ∧ Q (some (0, z19)) ψ19 x)))))))) ∧ (¬ z9 = 0 → hw sc (d + 4) 194 0 [(0, (2, 192))] [] φ x (fun r ψ21 y21 => y21 = x ∧ (∃ z21 : Int, r = some (0, z21) ∧ ((z21 = 0 ∨ z21 = 1) ∧ Q (some (0, z21)) ψ21 x)))))))) ∧ (¬ z7 = 0 → hw sc (d + 4) 193 0 [(0, (2, 192))] [] φ x (fun r ψ23 y23 => y23 = x ∧ (∃ z23 : Int, r = some (0, z23) ∧ ((z23 = 0 ∨ z23 = 1) ∧ Q (some (0, z23)) ψ23 x)))))))) ∧ (¬ z5 = 0 → hw sc (d + 4) 192 0 [(0, (2, 192))] [] φ x (fun r ψ25 y25 => y25 = x ∧ (∃ z25 : Int, r = some (0, z25) ∧ ((z25 = 0 ∨ z25 = 1) ∧ Q (some (0, z25)) ψ25 x)))))))) ∧ (¬ z3 = 0 → hw sc (d + 4) 189 0 [(0, (2, 192))] [] φ x (fun r ψ27 y27 => y27 = x ∧ (∃ z27 : Int, r = some (0, z27) ∧ ((z27 = 0 ∨ z27 = 1) ∧ Q (some (0, z27)) ψ27 x)))))))) ∧ (¬ z1 = 0 → hw sc (d + 4) 181 0 [(0, (2, 192))] [] φ x (fun r ψ29 y29 => y29 = x ∧ (∃ z29 : Int, r = some (0, z29) ∧ ((z29 = 0 ∨ z29 = 1) ∧ Q (some (0, z29)) ψ29 x)))))))) :
    hw sc (d + 5) 179 0 [(0, (2, 192))] [] φ x Q := by
  refine hw_ald (b := 0) (e := 0) (by decide +kernel) rfl (by decide) ?_
  refine hw_lk (c := 1919512167) (b := 1) (e := 3) (by decide +kernel) ?_
  refine hr_call (a0 := 22) (b := 180) (e := 2) (nl := 3) (As := [(1, 1919512167)]) (R := []) 192 rfl (by decide +kernel) rfl rfl (Nat.le_of_ble_eq_true rfl) (Nat.le_of_ble_eq_true rfl) ?_
  refine hw_mono H ?_
  rintro r ψ1 y1 ⟨hyx, hψx, z1, hr, H⟩
  subst hyx
  subst hψx
  subst hr
  refine ⟨hne0, ?_⟩
  show hw sc (d + 5) 179 7 [(0, (2, 192))] [(0, z1)] φ y1 Q
  obtain ⟨hz2, ht2, hf2⟩ := H
  refine hw_if (a0 := 0) (b := 0) (e := 15) (by decide +kernel) hz2 (fun q => ?_) (fun q => ?_)
  · have H := ht2 q
    refine hw_ald (b := 0) (e := 0) (by decide +kernel) rfl (by decide) ?_
    refine hw_lk (c := 1936023924) (b := 1) (e := 3) (by decide +kernel) ?_
    refine hr_call (a0 := 22) (b := 180) (e := 2) (nl := 3) (As := [(1, 1936023924)]) (R := []) 192 rfl (by decide +kernel) rfl rfl (Nat.le_of_ble_eq_true rfl) (Nat.le_of_ble_eq_true rfl) ?_
    refine hw_mono H ?_
    rintro r ψ3 y3 ⟨hyx, hψx, z3, hr, H⟩
    subst hyx
    subst hψx
    subst hr
    refine ⟨hne0, ?_⟩
    show hw sc (d + 5) 179 22 [(0, (2, 192))] [(0, z3)] φ y3 Q
    obtain ⟨hz4, ht4, hf4⟩ := H
    refine hw_if (a0 := 0) (b := 0) (e := 30) (by decide +kernel) hz4 (fun q => ?_) (fun q => ?_)
    · have H := ht4 q
      refine hw_ald (b := 0) (e := 0) (by decide +kernel) rfl (by decide) ?_
      refine hw_lk (c := 2003792484) (b := 1) (e := 3) (by decide +kernel) ?_
      refine hr_call (a0 := 22) (b := 180) (e := 2) (nl := 3) (As := [(1, 2003792484)]) (R := []) 192 rfl (by decide +kernel) rfl rfl (Nat.le_of_ble_eq_true rfl) (Nat.le_of_ble_eq_true rfl) ?_
      refine hw_mono H ?_
      rintro r ψ5 y5 ⟨hyx, hψx, z5, hr, H⟩
      subst hyx
      subst hψx
      subst hr
      refine ⟨hne0, ?_⟩
      show hw sc (d + 5) 179 37 [(0, (2, 192))] [(0, z5)] φ y5 Q
      obtain ⟨hz6, ht6, hf6⟩ := H
      refine hw_if (a0 := 0) (b := 0) (e := 45) (by decide +kernel) hz6 (fun q => ?_) (fun q => ?_)
      · have H := ht6 q
        refine hw_ald (b := 0) (e := 0) (by decide +kernel) rfl (by decide) ?_
        refine hw_lk (c := 491394458994) (b := 1) (e := 3) (by decide +kernel) ?_
        refine hr_call (a0 := 22) (b := 180) (e := 2) (nl := 3) (As := [(1, 491394458994)]) (R := []) 192 rfl (by decide +kernel) rfl rfl (Nat.le_of_ble_eq_true rfl) (Nat.le_of_ble_eq_true rfl) ?_
        refine hw_mono H ?_
        rintro r ψ7 y7 ⟨hyx, hψx, z7, hr, H⟩
        subst hyx
        subst hψx
        subst hr
        refine ⟨hne0, ?_⟩
        show hw sc (d + 5) 179 52 [(0, (2, 192))] [(0, z7)] φ y7 Q
        obtain ⟨hz8, ht8, hf8⟩ := H
        refine hw_if (a0 := 0) (b := 0) (e := 60) (by decide +kernel) hz8 (fun q => ?_) (fun q => ?_)
        · have H := ht8 q
          refine hw_ald (b := 0) (e := 0) (by decide +kernel) rfl (by decide) ?_
          refine hw_lk (c := 1935767923) (b := 1) (e := 3) (by decide +kernel) ?_
          refine hr_call (a0 := 22) (b := 180) (e := 2) (nl := 3) (As := [(1, 1935767923)]) (R := []) 192 rfl (by decide +kernel) rfl rfl (Nat.le_of_ble_eq_true rfl) (Nat.le_of_ble_eq_true rfl) ?_
          refine hw_mono H ?_
          rintro r ψ9 y9 ⟨hyx, hψx, z9, hr, H⟩
          subst hyx
          subst hψx
          subst hr
          refine ⟨hne0, ?_⟩
          show hw sc (d + 5) 179 67 [(0, (2, 192))] [(0, z9)] φ y9 Q
          obtain ⟨hz10, ht10, hf10⟩ := H
          refine hw_if (a0 := 0) (b := 0) (e := 75) (by decide +kernel) hz10 (fun q => ?_) (fun q => ?_)
          · have H := ht10 q
            refine hw_ald (b := 0) (e := 0) (by decide +kernel) rfl (by decide) ?_
            refine hw_lk (c := 7102839) (b := 1) (e := 3) (by decide +kernel) ?_
            refine hr_call (a0 := 22) (b := 180) (e := 2) (nl := 3) (As := [(1, 7102839)]) (R := []) 192 rfl (by decide +kernel) rfl rfl (Nat.le_of_ble_eq_true rfl) (Nat.le_of_ble_eq_true rfl) ?_
            refine hw_mono H ?_
            rintro r ψ11 y11 ⟨hyx, hψx, z11, hr, H⟩
            subst hyx
            subst hψx
            subst hr
            refine ⟨hne0, ?_⟩
            show hw sc (d + 5) 179 82 [(0, (2, 192))] [(0, z11)] φ y11 Q
            obtain ⟨hz12, ht12, hf12⟩ := H
            refine hw_if (a0 := 0) (b := 0) (e := 90) (by decide +kernel) hz12 (fun q => ?_) (fun q => ?_)
            · have H := ht12 q
              refine hw_ald (b := 0) (e := 0) (by decide +kernel) rfl (by decide) ?_
              refine hw_lk (c := 427020088168) (b := 1) (e := 3) (by decide +kernel) ?_
              refine hr_call (a0 := 22) (b := 180) (e := 2) (nl := 3) (As := [(1, 427020088168)]) (R := []) 192 rfl (by decide +kernel) rfl rfl (Nat.le_of_ble_eq_true rfl) (Nat.le_of_ble_eq_true rfl) ?_
              refine hw_mono H ?_
              rintro r ψ13 y13 ⟨hyx, hψx, z13, hr, H⟩
              subst hyx
              subst hψx
              subst hr
              refine ⟨hne0, ?_⟩
              show hw sc (d + 5) 179 97 [(0, (2, 192))] [(0, z13)] φ y13 Q
              obtain ⟨hz14, ht14, hf14⟩ := H
              refine hw_if (a0 := 0) (b := 0) (e := 107) (by decide +kernel) hz14 (fun q => ?_) (fun q => ?_)
              · have H := ht14 q
                refine hw_ald (b := 0) (e := 0) (by decide +kernel) rfl (by decide) ?_
                refine hw_k (c := 1) (b := 0) (e := 1) (by decide +kernel) ?_
                refine hr_call (a0 := 22) (b := 182) (e := 2) (nl := 2) (As := [(0, 1)]) (R := []) 192 rfl (by decide +kernel) rfl rfl (Nat.le_of_ble_eq_true rfl) (Nat.le_of_ble_eq_true rfl) ?_
                refine hw_mono H ?_
                rintro r ψ15 y15 ⟨hyx, z15, hr, H⟩
                subst hyx
                subst hr
                refine ⟨hne0, ?_⟩
                show hw sc (d + 5) 179 112 [(0, (2, 192))] [(0, z15)] ψ15 y15 Q
                exact hw_ret (a0 := 0) (e := 1) (by decide +kernel) (Or.inr ⟨rfl, H.1⟩) H.2
              · have H := hf14 q
                refine hw_ald (b := 0) (e := 0) (by decide +kernel) rfl (by decide) ?_
                refine hr_call (a0 := 22) (b := 196) (e := 1) (nl := 2) (As := []) (R := []) 192 rfl (by decide +kernel) rfl rfl (Nat.le_of_ble_eq_true rfl) (Nat.le_of_ble_eq_true rfl) ?_
                refine hw_mono H ?_
                rintro r ψ17 y17 ⟨hyx, z17, hr, H⟩
                subst hyx
                subst hr
                refine ⟨hne0, ?_⟩
                show hw sc (d + 5) 179 104 [(0, (2, 192))] [(0, z17)] ψ17 y17 Q
                refine hw_goto (a0 := 0) (b := 0) (e := 112) (by decide +kernel) ?_
                exact hw_ret (a0 := 0) (e := 1) (by decide +kernel) (Or.inr ⟨rfl, H.1⟩) H.2
            · have H := hf12 q
              refine hw_ald (b := 0) (e := 0) (by decide +kernel) rfl (by decide) ?_
              refine hr_call (a0 := 22) (b := 195) (e := 1) (nl := 4) (As := []) (R := []) 192 rfl (by decide +kernel) rfl rfl (Nat.le_of_ble_eq_true rfl) (Nat.le_of_ble_eq_true rfl) ?_
              refine hw_mono H ?_
              rintro r ψ19 y19 ⟨hyx, z19, hr, H⟩
              subst hyx
              subst hr
              refine ⟨hne0, ?_⟩
              show hw sc (d + 5) 179 89 [(0, (2, 192))] [(0, z19)] ψ19 y19 Q
              exact hw_ret (a0 := 0) (e := 1) (by decide +kernel) (Or.inr ⟨rfl, H.1⟩) H.2
          · have H := hf10 q
            refine hw_ald (b := 0) (e := 0) (by decide +kernel) rfl (by decide) ?_
            refine hr_call (a0 := 22) (b := 194) (e := 1) (nl := 3) (As := []) (R := []) 192 rfl (by decide +kernel) rfl rfl (Nat.le_of_ble_eq_true rfl) (Nat.le_of_ble_eq_true rfl) ?_
            refine hw_mono H ?_
            rintro r ψ21 y21 ⟨hyx, z21, hr, H⟩
            subst hyx
            subst hr
            refine ⟨hne0, ?_⟩
            show hw sc (d + 5) 179 74 [(0, (2, 192))] [(0, z21)] ψ21 y21 Q
            exact hw_ret (a0 := 0) (e := 1) (by decide +kernel) (Or.inr ⟨rfl, H.1⟩) H.2
        · have H := hf8 q
          refine hw_ald (b := 0) (e := 0) (by decide +kernel) rfl (by decide) ?_
          refine hr_call (a0 := 22) (b := 193) (e := 1) (nl := 3) (As := []) (R := []) 192 rfl (by decide +kernel) rfl rfl (Nat.le_of_ble_eq_true rfl) (Nat.le_of_ble_eq_true rfl) ?_
          refine hw_mono H ?_
          rintro r ψ23 y23 ⟨hyx, z23, hr, H⟩
          subst hyx
          subst hr
          refine ⟨hne0, ?_⟩
          show hw sc (d + 5) 179 59 [(0, (2, 192))] [(0, z23)] ψ23 y23 Q
          exact hw_ret (a0 := 0) (e := 1) (by decide +kernel) (Or.inr ⟨rfl, H.1⟩) H.2
      · have H := hf6 q
        refine hw_ald (b := 0) (e := 0) (by decide +kernel) rfl (by decide) ?_
        refine hr_call (a0 := 22) (b := 192) (e := 1) (nl := 2) (As := []) (R := []) 192 rfl (by decide +kernel) rfl rfl (Nat.le_of_ble_eq_true rfl) (Nat.le_of_ble_eq_true rfl) ?_
        refine hw_mono H ?_
        rintro r ψ25 y25 ⟨hyx, z25, hr, H⟩
        subst hyx
        subst hr
        refine ⟨hne0, ?_⟩
        show hw sc (d + 5) 179 44 [(0, (2, 192))] [(0, z25)] ψ25 y25 Q
        exact hw_ret (a0 := 0) (e := 1) (by decide +kernel) (Or.inr ⟨rfl, H.1⟩) H.2
    · have H := hf4 q
      refine hw_ald (b := 0) (e := 0) (by decide +kernel) rfl (by decide) ?_
      refine hr_call (a0 := 22) (b := 189) (e := 1) (nl := 4) (As := []) (R := []) 192 rfl (by decide +kernel) rfl rfl (Nat.le_of_ble_eq_true rfl) (Nat.le_of_ble_eq_true rfl) ?_
      refine hw_mono H ?_
      rintro r ψ27 y27 ⟨hyx, z27, hr, H⟩
      subst hyx
      subst hr
      refine ⟨hne0, ?_⟩
      show hw sc (d + 5) 179 29 [(0, (2, 192))] [(0, z27)] ψ27 y27 Q
      exact hw_ret (a0 := 0) (e := 1) (by decide +kernel) (Or.inr ⟨rfl, H.1⟩) H.2
  · have H := hf2 q
    refine hw_ald (b := 0) (e := 0) (by decide +kernel) rfl (by decide) ?_
    refine hr_call (a0 := 22) (b := 181) (e := 1) (nl := 2) (As := []) (R := []) 192 rfl (by decide +kernel) rfl rfl (Nat.le_of_ble_eq_true rfl) (Nat.le_of_ble_eq_true rfl) ?_
    refine hw_mono H ?_
    rintro r ψ29 y29 ⟨hyx, z29, hr, H⟩
    subst hyx
    subst hr
    refine ⟨hne0, ?_⟩
    show hw sc (d + 5) 179 14 [(0, (2, 192))] [(0, z29)] ψ29 y29 Q
    exact hw_ret (a0 := 0) (e := 1) (by decide +kernel) (Or.inr ⟨rfl, H.1⟩) H.2
theorem sf_179_192 {sc : List Int} {d : Nat} {φ : hf_F} {x : Nat} {Q : Option jm_V → hf_F → Nat → Prop}  (hI : Inv φ)  (hQ : ∀ (r : Int) (ψ : hf_F), Inv ψ → Fr [195, 197, 193004, 193011, 193012, 193013, 193014, 193015, 193016, 193017, 193018] φ ψ → 0 ≤ r ∧ r ≤ 1 ∧ (φ 192 4 ≤ ψ 192 4 ∧ (r = 1 → ψ 192 11 = 3 → φ 192 4 < ψ 192 4)) → F_RideLawsModel_readLine_192 φ = (r, ψ) → Q (some (0, r)) ψ x) : hw sc (d + 5) 179 0 [(0, (2, 192))] [] φ x Q := by
  apply sf_179_192_v
  have e0 : F_RideLawsModel_readLine_192 φ = _ := rfl
  refine sf_180_192 (φ := φ) hI  (fun z1 hp1 hE1 => ⟨rfl, rfl, z1, rfl, ?_⟩)
  have e1 := e0.trans (bnp_e hE1)
  refine ⟨by unfold hi; omega, fun q2 => ?_, fun q2 => ?_⟩
  · skip
    have e2a := e1.trans (if_pos q2)
    refine sf_180_192 (φ := φ) hI  (fun z3 hp3 hE3 => ⟨rfl, rfl, z3, rfl, ?_⟩)
    have e3 := e2a.trans (bnp_e hE3)
    refine ⟨by unfold hi; omega, fun q4 => ?_, fun q4 => ?_⟩
    · skip
      have e4a := e3.trans (if_pos q4)
      refine sf_180_192 (φ := φ) hI  (fun z5 hp5 hE5 => ⟨rfl, rfl, z5, rfl, ?_⟩)
      have e5 := e4a.trans (bnp_e hE5)
      refine ⟨by unfold hi; omega, fun q6 => ?_, fun q6 => ?_⟩
      · skip
        have e6a := e5.trans (if_pos q6)
        refine sf_180_192 (φ := φ) hI  (fun z7 hp7 hE7 => ⟨rfl, rfl, z7, rfl, ?_⟩)
        have e7 := e6a.trans (bnp_e hE7)
        refine ⟨by unfold hi; omega, fun q8 => ?_, fun q8 => ?_⟩
        · skip
          have e8a := e7.trans (if_pos q8)
          refine sf_180_192 (φ := φ) hI  (fun z9 hp9 hE9 => ⟨rfl, rfl, z9, rfl, ?_⟩)
          have e9 := e8a.trans (bnp_e hE9)
          refine ⟨by unfold hi; omega, fun q10 => ?_, fun q10 => ?_⟩
          · skip
            have e10a := e9.trans (if_pos q10)
            refine sf_180_192 (φ := φ) hI  (fun z11 hp11 hE11 => ⟨rfl, rfl, z11, rfl, ?_⟩)
            have e11 := e10a.trans (bnp_e hE11)
            refine ⟨by unfold hi; omega, fun q12 => ?_, fun q12 => ?_⟩
            · skip
              have e12a := e11.trans (if_pos q12)
              refine sf_180_192 (φ := φ) hI  (fun z13 hp13 hE13 => ⟨rfl, rfl, z13, rfl, ?_⟩)
              have e13 := e12a.trans (bnp_e hE13)
              refine ⟨by unfold hi; omega, fun q14 => ?_, fun q14 => ?_⟩
              · skip
                have e14a := e13.trans (if_pos q14)
                refine sf_182_192 (φ := φ) hI (by omega) (by omega) (fun z15 ψ15 hI15 hF15 hp15 hE15 => ⟨rfl, z15, rfl, ?_⟩)
                have hG15 : Fr [195, 197, 193004, 193011, 193012, 193013, 193014, 193015, 193016, 193017, 193018] φ ψ15 := fr_tr (fr_rf) hF15 (by decide)
                have f1 := iv_at (a := 192) (k := 30) (lo := 0) (u := 40) hI (by decide +kernel)
                have f2 := iv_at (a := 192) (k := 4) (lo := 0) (u := 940) hI (by decide +kernel)
                have f3 := iv_at (a := 192) (k := 30) (lo := 0) (u := 40) hI15 (by decide +kernel)
                have f4 : ψ15 192 30 = φ 192 30 := (fr_fd hF15 192 30 (by decide))
                have f5 := iv_at (a := 192) (k := 4) (lo := 0) (u := 940) hI15 (by decide +kernel)
                have f6 : ψ15 192 4 = φ 192 4 := (fr_fd hF15 192 4 (by decide))
                have e15 := e14a.trans (bnd_e hE15)
                have f7 := iv_at (a := 192) (k := 11) (lo := 0) (u := 4) hI15 (by decide +kernel)
                have f8 : ψ15 192 11 = φ 192 11 := (fr_fd hF15 192 11 (by decide))
                have f9 := iv_at (a := 192) (k := 11) (lo := 0) (u := 4) hI (by decide +kernel)
                refine ⟨by omega, ?_⟩
                exact hQ z15 ψ15 hI15 hG15 ⟨by omega, by omega, by omega⟩ e15
              · skip
                have e14b := e13.trans (if_neg q14)
                refine sf_196_192 (φ := φ) hI  (fun z17 ψ17 hI17 hF17 hp17 hE17 => ⟨rfl, z17, rfl, ?_⟩)
                have hG17 : Fr [195, 197, 193004, 193011, 193012, 193013, 193014, 193015, 193016, 193017, 193018] φ ψ17 := fr_tr (fr_rf) hF17 (by decide)
                have f10 := iv_at (a := 192) (k := 4) (lo := 0) (u := 940) hI (by decide +kernel)
                have f11 := iv_at (a := 192) (k := 11) (lo := 0) (u := 4) hI17 (by decide +kernel)
                have f12 := iv_at (a := 192) (k := 4) (lo := 0) (u := 940) hI17 (by decide +kernel)
                have e17 := e14b.trans (bnd_e hE17)
                refine ⟨by omega, ?_⟩
                exact hQ z17 ψ17 hI17 hG17 ⟨by omega, by omega, by omega⟩ e17
            · skip
              have e12b := e11.trans (if_neg q12)
              refine sf_195_192 (φ := φ) hI  (fun z19 ψ19 hI19 hF19 hp19 hE19 => ⟨rfl, z19, rfl, ?_⟩)
              have hG19 : Fr [195, 197, 193004, 193011, 193012, 193013, 193014, 193015, 193016, 193017, 193018] φ ψ19 := fr_tr (fr_rf) hF19 (by decide)
              have f13 := iv_at (a := 192) (k := 4) (lo := 0) (u := 940) hI (by decide +kernel)
              have f14 := iv_at (a := 192) (k := 11) (lo := 0) (u := 4) hI19 (by decide +kernel)
              have f15 := iv_at (a := 192) (k := 4) (lo := 0) (u := 940) hI19 (by decide +kernel)
              have e19 := e12b.trans (bnd_e hE19)
              refine ⟨by omega, ?_⟩
              exact hQ z19 ψ19 hI19 hG19 ⟨by omega, by omega, by omega⟩ e19
          · skip
            have e10b := e9.trans (if_neg q10)
            refine sf_194_192 (φ := φ) hI  (fun z21 ψ21 hI21 hF21 hp21 hE21 => ⟨rfl, z21, rfl, ?_⟩)
            have hG21 : Fr [195, 197, 193004, 193011, 193012, 193013, 193014, 193015, 193016, 193017, 193018] φ ψ21 := fr_tr (fr_rf) hF21 (by decide)
            have f16 := iv_at (a := 192) (k := 4) (lo := 0) (u := 940) hI (by decide +kernel)
            have f17 := iv_at (a := 192) (k := 11) (lo := 0) (u := 4) hI21 (by decide +kernel)
            have f18 := iv_at (a := 192) (k := 4) (lo := 0) (u := 940) hI21 (by decide +kernel)
            have e21 := e10b.trans (bnd_e hE21)
            refine ⟨by omega, ?_⟩
            exact hQ z21 ψ21 hI21 hG21 ⟨by omega, by omega, by omega⟩ e21
        · skip
          have e8b := e7.trans (if_neg q8)
          refine sf_193_192 (φ := φ) hI  (fun z23 ψ23 hI23 hF23 hp23 hE23 => ⟨rfl, z23, rfl, ?_⟩)
          have hG23 : Fr [195, 197, 193004, 193011, 193012, 193013, 193014, 193015, 193016, 193017, 193018] φ ψ23 := fr_tr (fr_rf) hF23 (by decide)
          have f19 := iv_at (a := 192) (k := 4) (lo := 0) (u := 940) hI (by decide +kernel)
          have f20 := iv_at (a := 192) (k := 11) (lo := 0) (u := 4) hI23 (by decide +kernel)
          have f21 := iv_at (a := 192) (k := 4) (lo := 0) (u := 940) hI23 (by decide +kernel)
          have e23 := e8b.trans (bnd_e hE23)
          refine ⟨by omega, ?_⟩
          exact hQ z23 ψ23 hI23 hG23 ⟨by omega, by omega, by omega⟩ e23
      · skip
        have e6b := e5.trans (if_neg q6)
        refine sf_192_192 (φ := φ) hI  (fun z25 ψ25 hI25 hF25 hp25 hE25 => ⟨rfl, z25, rfl, ?_⟩)
        have hG25 : Fr [195, 197, 193004, 193011, 193012, 193013, 193014, 193015, 193016, 193017, 193018] φ ψ25 := fr_tr (fr_rf) hF25 (by decide)
        have f22 := iv_at (a := 192) (k := 4) (lo := 0) (u := 940) hI (by decide +kernel)
        have f23 := iv_at (a := 192) (k := 11) (lo := 0) (u := 4) hI25 (by decide +kernel)
        have f24 := iv_at (a := 192) (k := 4) (lo := 0) (u := 940) hI25 (by decide +kernel)
        have e25 := e6b.trans (bnd_e hE25)
        refine ⟨by omega, ?_⟩
        exact hQ z25 ψ25 hI25 hG25 ⟨by omega, by omega, by omega⟩ e25
    · skip
      have e4b := e3.trans (if_neg q4)
      refine sf_189_192 (φ := φ) hI  (fun z27 ψ27 hI27 hF27 hp27 hE27 => ⟨rfl, z27, rfl, ?_⟩)
      have hG27 : Fr [195, 197, 193004, 193011, 193012, 193013, 193014, 193015, 193016, 193017, 193018] φ ψ27 := fr_tr (fr_rf) hF27 (by decide)
      have f25 := iv_at (a := 192) (k := 4) (lo := 0) (u := 940) hI (by decide +kernel)
      have f26 := iv_at (a := 192) (k := 11) (lo := 0) (u := 4) hI27 (by decide +kernel)
      have f27 := iv_at (a := 192) (k := 4) (lo := 0) (u := 940) hI27 (by decide +kernel)
      have e27 := e4b.trans (bnd_e hE27)
      refine ⟨by omega, ?_⟩
      exact hQ z27 ψ27 hI27 hG27 ⟨by omega, by omega, by omega⟩ e27
  · skip
    have e2b := e1.trans (if_neg q2)
    refine sf_181_192 (φ := φ) hI  (fun z29 ψ29 hI29 hF29 hp29 hE29 => ⟨rfl, z29, rfl, ?_⟩)
    have hG29 : Fr [195, 197, 193004, 193011, 193012, 193013, 193014, 193015, 193016, 193017, 193018] φ ψ29 := fr_tr (fr_rf) hF29 (by decide)
    have f28 := iv_at (a := 192) (k := 4) (lo := 0) (u := 940) hI (by decide +kernel)
    have f29 := iv_at (a := 192) (k := 11) (lo := 0) (u := 4) hI29 (by decide +kernel)
    have f30 := iv_at (a := 192) (k := 4) (lo := 0) (u := 940) hI29 (by decide +kernel)
    have e29 := e2b.trans (bnd_e hE29)
    refine ⟨by omega, ?_⟩
    exact hQ z29 ψ29 hI29 hG29 ⟨by omega, by omega, by omega⟩ e29
theorem sf_173_192_v173 {sc : List Int} {d : Nat} {φ : hf_F} {x : Nat} {Q : Option jm_V → hf_F → Nat → Prop} {L : jm_L} {l1 : Int} (g0 : jm_get L 0 = some (2, 192)) (g1 : jm_get L 1 = some (0, l1))
    (H : hi l1 ∧ hi 48 ∧ (48 ≤ l1 → hw sc (d + 6) 173 203 L [] φ x Q) ∧ (¬ 48 ≤ l1 → 0 ≤ (27 + l1) ∧ (27 + l1) < 361 ∧ (0 ≤ (112 + l1) ∧ (112 + l1) < 361 ∧ (hw sc (d + 6) 173 173 (jm_st1 L 1 (0, l1 + 1)) [] (hf_up φ 194 ((112 + l1).toNat) (φ 194 ((27 + l1).toNat))) x Q)))) :
    hw sc (d + 6) 173 173 L [] φ x Q := by
  refine hw_ld (b := 1) (e := 0) (by decide +kernel) g1 ?_
  refine hw_k (c := 48) (b := 1) (e := 2) (by decide +kernel) ?_
  obtain ⟨hz1, hy1, ht1, hf1⟩ := H
  refine hw_if2 (a0 := 0) (b := 3) (e := 203) (by decide +kernel) hz1 hy1 (fun q => ?_) (fun q => ?_)
  · have H := ht1 q
    exact H
  · have H := hf1 q
    refine hw_ald (b := 0) (e := 0) (by decide +kernel) g0 (by decide) ?_
    refine hr_gr (w := 194) (b := 12) (e := 6) 192 rfl (by decide +kernel) ?_
    refine hw_k (c := 112) (b := 1) (e := 2) (by decide +kernel) ?_
    refine hw_ld (b := 1) (e := 0) (by decide +kernel) g1 ?_
    refine hw_bin (w := 112 + l1) (a0 := 0) (b := 0) (e := 0) (by decide +kernel) rfl ?_
    refine hw_ald (b := 0) (e := 0) (by decide +kernel) g0 (by decide) ?_
    refine hr_gr (w := 194) (b := 12) (e := 6) 192 rfl (by decide +kernel) ?_
    refine hw_k (c := 27) (b := 1) (e := 2) (by decide +kernel) ?_
    refine hw_ld (b := 1) (e := 0) (by decide +kernel) g1 ?_
    refine hw_bin (w := 27 + l1) (a0 := 0) (b := 0) (e := 0) (by decide +kernel) rfl ?_
    obtain ⟨hl2, hu2, H⟩ := H
    refine hr_al (b := 0) (a0 := 0) (e := 0) (n := 361) (w := φ 194 ((27 + l1).toNat)) 194 rfl (by decide +kernel) (by decide) hl2 hu2 rfl ?_
    obtain ⟨hl3, hu3, H⟩ := H
    refine hr_as (a0 := 0) (e := 4) (n := 361) 194 rfl (by decide +kernel) hl3 hu3 ?_
    refine hw_inc (L' := (jm_st1 L 1 (0, l1 + 1))) (c := 1) (b := 1) (e := 0) (by decide +kernel) g1 rfl ?_
    refine hw_goto (a0 := 0) (b := 0) (e := 173) (by decide +kernel) ?_
    exact H
theorem sf_173_192_m173 {sc : List Int} {d x : Nat} {Q : Option jm_V → hf_F → Nat → Prop} {φ0 : hf_F}  : ∀ (n : Nat) (L : jm_L) (l1 : Int), jm_get L 0 = some (2, 192) → jm_get L 1 = some (0, l1) → 0 ≤ l1 → l1 + (n : Int) = 48 → (∀ (L1 : jm_L), jm_get L1 0 = some (2, 192) → jm_get L1 1 = some (0, 48) → hw sc (d + 6) 173 203 L1 [] (hf_mp φ0 194 112 48 (fun j => φ0 194 (27 + j))) x Q) → hw sc (d + 6) 173 173 L [] (hf_mp φ0 194 112 (l1).toNat (fun j => φ0 194 (27 + j))) x Q := by
  intro n
  induction n with
  | zero =>
    intro L l1 g0 g1 h0 hn hQ
    generalize hμ : hf_mp φ0 194 112 (l1).toNat (fun j => φ0 194 (27 + j)) = φ
    refine sf_173_192_v173 g0 g1 ?_
    refine ⟨by unfold hi; omega, by unfold hi; omega, fun q1 => ?_, fun q1 => ?_⟩
    · skip
      obtain rfl : l1 = 48 := by omega
      subst hμ
      exact hQ L g0 g1
    · exfalso
      omega
  | succ n ih =>
    intro L l1 g0 g1 h0 hn hQ
    generalize hμ : hf_mp φ0 194 112 (l1).toNat (fun j => φ0 194 (27 + j)) = φ
    refine sf_173_192_v173 g0 g1 ?_
    refine ⟨by unfold hi; omega, by unfold hi; omega, fun q1 => ?_, fun q1 => ?_⟩
    · skip
      obtain rfl : l1 = 48 := by omega
      subst hμ
      exact hQ L g0 g1
    · skip
      refine ⟨by omega, by omega, ?_⟩
      refine ⟨by omega, by omega, ?_⟩
      have hk : (112 + l1).toNat = 112 + (l1).toNat := by omega
      have hv : (φ 194 ((27 + l1).toNat) : Int) = (fun j => φ0 194 (27 + j)) (l1).toNat := (congrArg (φ 194) (show ((27 + l1).toNat) = 27 + (l1).toNat by omega)).trans (by rw [← hμ]; exact hf_mp_ne (by omega))
      have he := hf_mp_s (φ := φ0) (b := 194) (ob := 112) (f := (fun j => φ0 194 (27 + j))) hk hv
      rw [hμ, show (l1).toNat + 1 = (l1 + 1).toNat by omega] at he
      rw [he]
      exact ih (jm_st1 L 1 (0, l1 + 1)) (l1 + 1) (get_st1 g0 (by decide) (fun q => tg2 q.2)) get_st1e (by omega) (by omega) hQ
theorem sf_173_192_M173 {sc : List Int} {d x : Nat} {Q : Option jm_V → hf_F → Nat → Prop} {φ0 : hf_F}  {L : jm_L} (g0 : jm_get L 0 = some (2, 192)) (g1 : jm_get L 1 = some (0, 0))  (hQ : (∀ (L1 : jm_L), jm_get L1 0 = some (2, 192) → jm_get L1 1 = some (0, 48) → hw sc (d + 6) 173 203 L1 [] (hf_mp φ0 194 112 48 (fun j => φ0 194 (27 + j))) x Q)) : hw sc (d + 6) 173 173 L [] φ0 x Q := by
  have h := sf_173_192_m173 (φ0 := φ0)  48 L 0 g0 g1 (by decide) (by omega) hQ
  rw [show hf_mp φ0 194 112 ((0 : Int)).toNat (fun j => φ0 194 (27 + j)) = φ0 from hf_mp_0] at h
  exact h
theorem sf_173_192_v141 {sc : List Int} {d : Nat} {φ : hf_F} {x : Nat} {Q : Option jm_V → hf_F → Nat → Prop} {L : jm_L} {l1 : Int} (g0 : jm_get L 0 = some (2, 192)) (g1 : jm_get L 1 = some (0, l1))
    (H : hi l1 ∧ hi 8 ∧ (8 ≤ l1 → hw sc (d + 6) 173 171 L [] φ x Q) ∧ (¬ 8 ≤ l1 → 0 ≤ (19 + l1) ∧ (19 + l1) < 361 ∧ (0 ≤ (104 + l1) ∧ (104 + l1) < 361 ∧ (hw sc (d + 6) 173 141 (jm_st1 L 1 (0, l1 + 1)) [] (hf_up φ 194 ((104 + l1).toNat) (φ 194 ((19 + l1).toNat))) x Q)))) :
    hw sc (d + 6) 173 141 L [] φ x Q := by
  refine hw_ld (b := 1) (e := 0) (by decide +kernel) g1 ?_
  refine hw_k (c := 8) (b := 1) (e := 2) (by decide +kernel) ?_
  obtain ⟨hz1, hy1, ht1, hf1⟩ := H
  refine hw_if2 (a0 := 0) (b := 3) (e := 171) (by decide +kernel) hz1 hy1 (fun q => ?_) (fun q => ?_)
  · have H := ht1 q
    exact H
  · have H := hf1 q
    refine hw_ald (b := 0) (e := 0) (by decide +kernel) g0 (by decide) ?_
    refine hr_gr (w := 194) (b := 12) (e := 6) 192 rfl (by decide +kernel) ?_
    refine hw_k (c := 104) (b := 1) (e := 2) (by decide +kernel) ?_
    refine hw_ld (b := 1) (e := 0) (by decide +kernel) g1 ?_
    refine hw_bin (w := 104 + l1) (a0 := 0) (b := 0) (e := 0) (by decide +kernel) rfl ?_
    refine hw_ald (b := 0) (e := 0) (by decide +kernel) g0 (by decide) ?_
    refine hr_gr (w := 194) (b := 12) (e := 6) 192 rfl (by decide +kernel) ?_
    refine hw_k (c := 19) (b := 1) (e := 2) (by decide +kernel) ?_
    refine hw_ld (b := 1) (e := 0) (by decide +kernel) g1 ?_
    refine hw_bin (w := 19 + l1) (a0 := 0) (b := 0) (e := 0) (by decide +kernel) rfl ?_
    obtain ⟨hl2, hu2, H⟩ := H
    refine hr_al (b := 0) (a0 := 0) (e := 0) (n := 361) (w := φ 194 ((19 + l1).toNat)) 194 rfl (by decide +kernel) (by decide) hl2 hu2 rfl ?_
    obtain ⟨hl3, hu3, H⟩ := H
    refine hr_as (a0 := 0) (e := 4) (n := 361) 194 rfl (by decide +kernel) hl3 hu3 ?_
    refine hw_inc (L' := (jm_st1 L 1 (0, l1 + 1))) (c := 1) (b := 1) (e := 0) (by decide +kernel) g1 rfl ?_
    refine hw_goto (a0 := 0) (b := 0) (e := 141) (by decide +kernel) ?_
    exact H
theorem sf_173_192_m141 {sc : List Int} {d x : Nat} {Q : Option jm_V → hf_F → Nat → Prop} {φ0 : hf_F}  : ∀ (n : Nat) (L : jm_L) (l1 : Int), jm_get L 0 = some (2, 192) → jm_get L 1 = some (0, l1) → 0 ≤ l1 → l1 + (n : Int) = 8 → (∀ (L1 : jm_L), jm_get L1 0 = some (2, 192) → jm_get L1 1 = some (0, 8) → hw sc (d + 6) 173 171 L1 [] (hf_mp φ0 194 104 8 (fun j => φ0 194 (19 + j))) x Q) → hw sc (d + 6) 173 141 L [] (hf_mp φ0 194 104 (l1).toNat (fun j => φ0 194 (19 + j))) x Q := by
  intro n
  induction n with
  | zero =>
    intro L l1 g0 g1 h0 hn hQ
    generalize hμ : hf_mp φ0 194 104 (l1).toNat (fun j => φ0 194 (19 + j)) = φ
    refine sf_173_192_v141 g0 g1 ?_
    refine ⟨by unfold hi; omega, by unfold hi; omega, fun q1 => ?_, fun q1 => ?_⟩
    · skip
      obtain rfl : l1 = 8 := by omega
      subst hμ
      exact hQ L g0 g1
    · exfalso
      omega
  | succ n ih =>
    intro L l1 g0 g1 h0 hn hQ
    generalize hμ : hf_mp φ0 194 104 (l1).toNat (fun j => φ0 194 (19 + j)) = φ
    refine sf_173_192_v141 g0 g1 ?_
    refine ⟨by unfold hi; omega, by unfold hi; omega, fun q1 => ?_, fun q1 => ?_⟩
    · skip
      obtain rfl : l1 = 8 := by omega
      subst hμ
      exact hQ L g0 g1
    · skip
      refine ⟨by omega, by omega, ?_⟩
      refine ⟨by omega, by omega, ?_⟩
      have hk : (104 + l1).toNat = 104 + (l1).toNat := by omega
      have hv : (φ 194 ((19 + l1).toNat) : Int) = (fun j => φ0 194 (19 + j)) (l1).toNat := (congrArg (φ 194) (show ((19 + l1).toNat) = 19 + (l1).toNat by omega)).trans (by rw [← hμ]; exact hf_mp_ne (by omega))
      have he := hf_mp_s (φ := φ0) (b := 194) (ob := 104) (f := (fun j => φ0 194 (19 + j))) hk hv
      rw [hμ, show (l1).toNat + 1 = (l1 + 1).toNat by omega] at he
      rw [he]
      exact ih (jm_st1 L 1 (0, l1 + 1)) (l1 + 1) (get_st1 g0 (by decide) (fun q => tg2 q.2)) get_st1e (by omega) (by omega) hQ
theorem sf_173_192_M141 {sc : List Int} {d x : Nat} {Q : Option jm_V → hf_F → Nat → Prop} {φ0 : hf_F}  {L : jm_L} (g0 : jm_get L 0 = some (2, 192)) (g1 : jm_get L 1 = some (0, 0))  (hQ : (∀ (L1 : jm_L), jm_get L1 0 = some (2, 192) → jm_get L1 1 = some (0, 8) → hw sc (d + 6) 173 171 L1 [] (hf_mp φ0 194 104 8 (fun j => φ0 194 (19 + j))) x Q)) : hw sc (d + 6) 173 141 L [] φ0 x Q := by
  have h := sf_173_192_m141 (φ0 := φ0)  8 L 0 g0 g1 (by decide) (by omega) hQ
  rw [show hf_mp φ0 194 104 ((0 : Int)).toNat (fun j => φ0 194 (19 + j)) = φ0 from hf_mp_0] at h
  exact h
theorem sf_173_192_v112 {sc : List Int} {d : Nat} {φ : hf_F} {x : Nat} {Q : Option jm_V → hf_F → Nat → Prop} {L : jm_L} {l1 : Int} (g0 : jm_get L 0 = some (2, 192)) (g1 : jm_get L 1 = some (0, l1))
    (H : hi l1 ∧ hi 33 ∧ (33 ≤ l1 → hw sc (d + 6) 173 139 L [] φ x Q) ∧ (¬ 33 ≤ l1 → 0 ≤ (33 + l1) ∧ (33 + l1) < 66 ∧ (0 ≤ l1 ∧ l1 < 66 ∧ (hw sc (d + 6) 173 112 (jm_st1 L 1 (0, l1 + 1)) [] (hf_up φ 197 ((l1).toNat) (φ 197 ((33 + l1).toNat))) x Q)))) :
    hw sc (d + 6) 173 112 L [] φ x Q := by
  refine hw_ld (b := 1) (e := 0) (by decide +kernel) g1 ?_
  refine hw_k (c := 33) (b := 1) (e := 2) (by decide +kernel) ?_
  obtain ⟨hz1, hy1, ht1, hf1⟩ := H
  refine hw_if2 (a0 := 0) (b := 3) (e := 139) (by decide +kernel) hz1 hy1 (fun q => ?_) (fun q => ?_)
  · have H := ht1 q
    exact H
  · have H := hf1 q
    refine hw_ald (b := 0) (e := 0) (by decide +kernel) g0 (by decide) ?_
    refine hr_gr (w := 197) (b := 12) (e := 9) 192 rfl (by decide +kernel) ?_
    refine hw_ld (b := 1) (e := 0) (by decide +kernel) g1 ?_
    refine hw_ald (b := 0) (e := 0) (by decide +kernel) g0 (by decide) ?_
    refine hr_gr (w := 197) (b := 12) (e := 9) 192 rfl (by decide +kernel) ?_
    refine hw_k (c := 33) (b := 1) (e := 2) (by decide +kernel) ?_
    refine hw_ld (b := 1) (e := 0) (by decide +kernel) g1 ?_
    refine hw_bin (w := 33 + l1) (a0 := 0) (b := 0) (e := 0) (by decide +kernel) rfl ?_
    obtain ⟨hl2, hu2, H⟩ := H
    refine hr_all (a0 := 0) (e := 0) (n := 66) (w := φ 197 ((33 + l1).toNat)) 197 rfl (by decide +kernel) hl2 hu2 rfl ?_
    obtain ⟨hl3, hu3, H⟩ := H
    refine hr_asl (a0 := 0) (e := 4) (n := 66) 197 rfl (by decide +kernel) hl3 hu3 ?_
    refine hw_inc (L' := (jm_st1 L 1 (0, l1 + 1))) (c := 1) (b := 1) (e := 0) (by decide +kernel) g1 rfl ?_
    refine hw_goto (a0 := 0) (b := 0) (e := 112) (by decide +kernel) ?_
    exact H
theorem sf_173_192_m112 {sc : List Int} {d x : Nat} {Q : Option jm_V → hf_F → Nat → Prop} {φ0 : hf_F}  : ∀ (n : Nat) (L : jm_L) (l1 : Int), jm_get L 0 = some (2, 192) → jm_get L 1 = some (0, l1) → 0 ≤ l1 → l1 + (n : Int) = 33 → (∀ (L1 : jm_L), jm_get L1 0 = some (2, 192) → jm_get L1 1 = some (0, 33) → hw sc (d + 6) 173 139 L1 [] (hf_mp φ0 197 0 33 (fun j => φ0 197 (33 + j))) x Q) → hw sc (d + 6) 173 112 L [] (hf_mp φ0 197 0 (l1).toNat (fun j => φ0 197 (33 + j))) x Q := by
  intro n
  induction n with
  | zero =>
    intro L l1 g0 g1 h0 hn hQ
    generalize hμ : hf_mp φ0 197 0 (l1).toNat (fun j => φ0 197 (33 + j)) = φ
    refine sf_173_192_v112 g0 g1 ?_
    refine ⟨by unfold hi; omega, by unfold hi; omega, fun q1 => ?_, fun q1 => ?_⟩
    · skip
      obtain rfl : l1 = 33 := by omega
      subst hμ
      exact hQ L g0 g1
    · exfalso
      omega
  | succ n ih =>
    intro L l1 g0 g1 h0 hn hQ
    generalize hμ : hf_mp φ0 197 0 (l1).toNat (fun j => φ0 197 (33 + j)) = φ
    refine sf_173_192_v112 g0 g1 ?_
    refine ⟨by unfold hi; omega, by unfold hi; omega, fun q1 => ?_, fun q1 => ?_⟩
    · skip
      obtain rfl : l1 = 33 := by omega
      subst hμ
      exact hQ L g0 g1
    · skip
      refine ⟨by omega, by omega, ?_⟩
      refine ⟨by omega, by omega, ?_⟩
      have hk : (l1).toNat = 0 + (l1).toNat := by omega
      have hv : (φ 197 ((33 + l1).toNat) : Int) = (fun j => φ0 197 (33 + j)) (l1).toNat := (congrArg (φ 197) (show ((33 + l1).toNat) = 33 + (l1).toNat by omega)).trans (by rw [← hμ]; exact hf_mp_ne (by omega))
      have he := hf_mp_s (φ := φ0) (b := 197) (ob := 0) (f := (fun j => φ0 197 (33 + j))) hk hv
      rw [hμ, show (l1).toNat + 1 = (l1 + 1).toNat by omega] at he
      rw [he]
      exact ih (jm_st1 L 1 (0, l1 + 1)) (l1 + 1) (get_st1 g0 (by decide) (fun q => tg2 q.2)) get_st1e (by omega) (by omega) hQ
theorem sf_173_192_M112 {sc : List Int} {d x : Nat} {Q : Option jm_V → hf_F → Nat → Prop} {φ0 : hf_F}  {L : jm_L} (g0 : jm_get L 0 = some (2, 192)) (g1 : jm_get L 1 = some (0, 0))  (hQ : (∀ (L1 : jm_L), jm_get L1 0 = some (2, 192) → jm_get L1 1 = some (0, 33) → hw sc (d + 6) 173 139 L1 [] (hf_mp φ0 197 0 33 (fun j => φ0 197 (33 + j))) x Q)) : hw sc (d + 6) 173 112 L [] φ0 x Q := by
  have h := sf_173_192_m112 (φ0 := φ0)  33 L 0 g0 g1 (by decide) (by omega) hQ
  rw [show hf_mp φ0 197 0 ((0 : Int)).toNat (fun j => φ0 197 (33 + j)) = φ0 from hf_mp_0] at h
  exact h
theorem sf_173_192_v75 {sc : List Int} {d : Nat} {φ : hf_F} {x : Nat} {Q : Option jm_V → hf_F → Nat → Prop} {L : jm_L} {l1 : Int} (g0 : jm_get L 0 = some (2, 192)) (g1 : jm_get L 1 = some (0, l1))
    (H : hi l1 ∧ hi 361 ∧ (361 ≤ l1 → hw sc (d + 6) 173 110 L [] φ x Q) ∧ (¬ 361 ≤ l1 → hi l1 ∧ hi 99 ∧ (99 ≤ l1 → 0 ≤ l1 ∧ l1 < 361 ∧ (hw sc (d + 6) 173 75 (jm_st1 L 1 (0, l1 + 1)) [] (hf_up φ 194 ((l1).toNat) 0) x Q)) ∧ (¬ 99 ≤ l1 → 0 ≤ l1 ∧ l1 < 99 ∧ (0 ≤ l1 ∧ l1 < 361 ∧ (hw sc (d + 6) 173 75 (jm_st1 L 1 (0, l1 + 1)) [] (hf_up φ 194 ((l1).toNat) (φ 195 ((l1).toNat))) x Q))))) :
    hw sc (d + 6) 173 75 L [] φ x Q := by
  refine hw_ld (b := 1) (e := 0) (by decide +kernel) g1 ?_
  refine hw_k (c := 361) (b := 2) (e := 3) (by decide +kernel) ?_
  obtain ⟨hz1, hy1, ht1, hf1⟩ := H
  refine hw_if2 (a0 := 0) (b := 3) (e := 110) (by decide +kernel) hz1 hy1 (fun q => ?_) (fun q => ?_)
  · have H := ht1 q
    exact H
  · have H := hf1 q
    refine hw_ald (b := 0) (e := 0) (by decide +kernel) g0 (by decide) ?_
    refine hr_gr (w := 194) (b := 12) (e := 6) 192 rfl (by decide +kernel) ?_
    refine hw_ld (b := 1) (e := 0) (by decide +kernel) g1 ?_
    refine hw_ld (b := 1) (e := 0) (by decide +kernel) g1 ?_
    refine hw_k (c := 99) (b := 1) (e := 2) (by decide +kernel) ?_
    obtain ⟨hz2, hy2, ht2, hf2⟩ := H
    refine hw_if2 (a0 := 0) (b := 3) (e := 102) (by decide +kernel) hz2 hy2 (fun q => ?_) (fun q => ?_)
    · have H := ht2 q
      refine hw_k (c := 0) (b := 0) (e := 1) (by decide +kernel) ?_
      obtain ⟨hl3, hu3, H⟩ := H
      refine hr_as (a0 := 0) (e := 4) (n := 361) 194 rfl (by decide +kernel) hl3 hu3 ?_
      refine hw_inc (L' := (jm_st1 L 1 (0, l1 + 1))) (c := 1) (b := 1) (e := 0) (by decide +kernel) g1 rfl ?_
      refine hw_goto (a0 := 0) (b := 0) (e := 75) (by decide +kernel) ?_
      exact H
    · have H := hf2 q
      refine hw_ald (b := 0) (e := 0) (by decide +kernel) g0 (by decide) ?_
      refine hr_gr (w := 195) (b := 12) (e := 7) 192 rfl (by decide +kernel) ?_
      refine hw_ld (b := 1) (e := 0) (by decide +kernel) g1 ?_
      obtain ⟨hl4, hu4, H⟩ := H
      refine hr_al (b := 0) (a0 := 0) (e := 0) (n := 99) (w := φ 195 ((l1).toNat)) 195 rfl (by decide +kernel) (by decide) hl4 hu4 rfl ?_
      refine hw_goto (a0 := 0) (b := 0) (e := 103) (by decide +kernel) ?_
      obtain ⟨hl5, hu5, H⟩ := H
      refine hr_as (a0 := 0) (e := 4) (n := 361) 194 rfl (by decide +kernel) hl5 hu5 ?_
      refine hw_inc (L' := (jm_st1 L 1 (0, l1 + 1))) (c := 1) (b := 1) (e := 0) (by decide +kernel) g1 rfl ?_
      refine hw_goto (a0 := 0) (b := 0) (e := 75) (by decide +kernel) ?_
      exact H
theorem sf_173_192_m75 {sc : List Int} {d x : Nat} {Q : Option jm_V → hf_F → Nat → Prop} {φ0 : hf_F}  : ∀ (n : Nat) (L : jm_L) (l1 : Int), jm_get L 0 = some (2, 192) → jm_get L 1 = some (0, l1) → 0 ≤ l1 → l1 + (n : Int) = 361 → (∀ (L1 : jm_L), jm_get L1 0 = some (2, 192) → jm_get L1 1 = some (0, 361) → hw sc (d + 6) 173 110 L1 [] (hf_mp φ0 194 0 361 (fun j => if j < 99 then φ0 195 j else 0)) x Q) → hw sc (d + 6) 173 75 L [] (hf_mp φ0 194 0 (l1).toNat (fun j => if j < 99 then φ0 195 j else 0)) x Q := by
  intro n
  induction n with
  | zero =>
    intro L l1 g0 g1 h0 hn hQ
    generalize hμ : hf_mp φ0 194 0 (l1).toNat (fun j => if j < 99 then φ0 195 j else 0) = φ
    refine sf_173_192_v75 g0 g1 ?_
    refine ⟨by unfold hi; omega, by unfold hi; omega, fun q1 => ?_, fun q1 => ?_⟩
    · skip
      obtain rfl : l1 = 361 := by omega
      subst hμ
      exact hQ L g0 g1
    · exfalso
      omega
  | succ n ih =>
    intro L l1 g0 g1 h0 hn hQ
    generalize hμ : hf_mp φ0 194 0 (l1).toNat (fun j => if j < 99 then φ0 195 j else 0) = φ
    refine sf_173_192_v75 g0 g1 ?_
    refine ⟨by unfold hi; omega, by unfold hi; omega, fun q1 => ?_, fun q1 => ?_⟩
    · skip
      obtain rfl : l1 = 361 := by omega
      subst hμ
      exact hQ L g0 g1
    · skip
      refine ⟨by unfold hi; omega, by unfold hi; omega, fun q2 => ?_, fun q2 => ?_⟩
      · skip
        refine ⟨by omega, by omega, ?_⟩
        have hk : (l1).toNat = 0 + (l1).toNat := by omega
        have hv : (0 : Int) = (fun j => if j < 99 then φ0 195 j else 0) (l1).toNat := by show _ = (if (l1).toNat < 99 then φ0 195 (l1).toNat else 0); first | (rw [if_pos (by omega), ← hμ]; exact hf_mp_ne (by omega)) | (rw [if_neg (by omega)])
        have he := hf_mp_s (φ := φ0) (b := 194) (ob := 0) (f := (fun j => if j < 99 then φ0 195 j else 0)) hk hv
        rw [hμ, show (l1).toNat + 1 = (l1 + 1).toNat by omega] at he
        rw [he]
        exact ih (jm_st1 L 1 (0, l1 + 1)) (l1 + 1) (get_st1 g0 (by decide) (fun q => tg2 q.2)) get_st1e (by omega) (by omega) hQ
      · skip
        refine ⟨by omega, by omega, ?_⟩
        refine ⟨by omega, by omega, ?_⟩
        have hk : (l1).toNat = 0 + (l1).toNat := by omega
        have hv : (φ 195 ((l1).toNat) : Int) = (fun j => if j < 99 then φ0 195 j else 0) (l1).toNat := by show _ = (if (l1).toNat < 99 then φ0 195 (l1).toNat else 0); first | (rw [if_pos (by omega), ← hμ]; exact hf_mp_ne (by omega)) | (rw [if_neg (by omega)])
        have he := hf_mp_s (φ := φ0) (b := 194) (ob := 0) (f := (fun j => if j < 99 then φ0 195 j else 0)) hk hv
        rw [hμ, show (l1).toNat + 1 = (l1 + 1).toNat by omega] at he
        rw [he]
        exact ih (jm_st1 L 1 (0, l1 + 1)) (l1 + 1) (get_st1 g0 (by decide) (fun q => tg2 q.2)) get_st1e (by omega) (by omega) hQ
theorem sf_173_192_M75 {sc : List Int} {d x : Nat} {Q : Option jm_V → hf_F → Nat → Prop} {φ0 : hf_F}  {L : jm_L} (g0 : jm_get L 0 = some (2, 192)) (g1 : jm_get L 1 = some (0, 0))  (hQ : (∀ (L1 : jm_L), jm_get L1 0 = some (2, 192) → jm_get L1 1 = some (0, 361) → hw sc (d + 6) 173 110 L1 [] (hf_mp φ0 194 0 361 (fun j => if j < 99 then φ0 195 j else 0)) x Q)) : hw sc (d + 6) 173 75 L [] φ0 x Q := by
  have h := sf_173_192_m75 (φ0 := φ0)  361 L 0 g0 g1 (by decide) (by omega) hQ
  rw [show hf_mp φ0 194 0 ((0 : Int)).toNat (fun j => if j < 99 then φ0 195 j else 0) = φ0 from hf_mp_0] at h
  exact h
theorem sf_173_192_v30 {sc : List Int} {d : Nat} {φ : hf_F} {x : Nat} {Q : Option jm_V → hf_F → Nat → Prop} {L : jm_L} (g0 : jm_get L 0 = some (2, 192))
    (H : hi (φ 192 11) ∧ ((φ 192 11) = 0 → (∀ (Lm2 : jm_L), jm_get Lm2 0 = some (2, 192) → jm_get Lm2 1 = some (0, 361) → ((∀ (Lm3 : jm_L), jm_get Lm3 0 = some (2, 192) → jm_get Lm3 1 = some (0, 33) → ((∀ (Lm4 : jm_L), jm_get Lm4 0 = some (2, 192) → jm_get Lm4 1 = some (0, 8) → ((∀ (Lm5 : jm_L), jm_get Lm5 0 = some (2, 192) → jm_get Lm5 1 = some (0, 48) → (Q (some (0, φ 192 19)) (hf_up (hf_mp (hf_mp (hf_mp (hf_mp φ 194 0 361 (fun j => if j < 99 then φ 195 j else 0)) 197 0 33 (fun j => (hf_mp φ 194 0 361 (fun j => if j < 99 then φ 195 j else 0)) 197 (33 + j))) 194 104 8 (fun j => (hf_mp (hf_mp φ 194 0 361 (fun j => if j < 99 then φ 195 j else 0)) 197 0 33 (fun j => (hf_mp φ 194 0 361 (fun j => if j < 99 then φ 195 j else 0)) 197 (33 + j))) 194 (19 + j))) 194 112 48 (fun j => (hf_mp (hf_mp (hf_mp φ 194 0 361 (fun j => if j < 99 then φ 195 j else 0)) 197 0 33 (fun j => (hf_mp φ 194 0 361 (fun j => if j < 99 then φ 195 j else 0)) 197 (33 + j))) 194 104 8 (fun j => (hf_mp (hf_mp φ 194 0 361 (fun j => if j < 99 then φ 195 j else 0)) 197 0 33 (fun j => (hf_mp φ 194 0 361 (fun j => if j < 99 then φ 195 j else 0)) 197 (33 + j))) 194 (19 + j))) 194 (27 + j))) 192 22 0) x))))))))) ∧ (¬ (φ 192 11) = 0 → hw sc (d + 5) 179 0 [(0, (2, 192))] [] φ x (fun r ψ7 y7 => y7 = x ∧ (∃ z7 : Int, r = some (0, z7) ∧ (hi z7 ∧ (z7 = 0 → Q (some (0, (-1 : Int) - (ψ7 192 16))) ψ7 x) ∧ (¬ z7 = 0 → hw sc (d + 5) 198 0 [(0, (2, 192)), (1, (0, 59))] [] ψ7 x (fun r ψ10 y10 => y10 = x ∧ (∃ z10 : Int, r = some (0, z10) ∧ (hi z10 ∧ (¬ z10 = 0 → hw sc (d + 6) 173 30 L [] (hf_up ψ10 192 19 ((ψ10 192 19) + 1)) x Q) ∧ (¬ (¬ z10 = 0) → Q (some (0, (-1 : Int) - (ψ10 192 16))) ψ10 x)))))))))) :
    hw sc (d + 6) 173 30 L [] φ x Q := by
  refine hw_ald (b := 0) (e := 0) (by decide +kernel) g0 (by decide) ?_
  refine hr_gi (w := φ 192 11) (b := 12) (e := 11) 192 rfl (by decide +kernel) rfl ?_
  obtain ⟨hz1, ht1, hf1⟩ := H
  refine hw_if (a0 := 0) (b := 0) (e := 73) (by decide +kernel) hz1 (fun q => ?_) (fun q => ?_)
  · have H := ht1 q
    refine hw_k (c := 0) (b := 0) (e := 1) (by decide +kernel) ?_
    refine hw_st (L' := (jm_st1 L 1 (0, 0))) (b := 1) (e := 0) (by decide +kernel) rfl ?_
    refine sf_173_192_M75 (φ0 := φ) (get_st1 g0 (by decide) (fun q => tg2 q.2)) get_st1e  (fun Lm2 w2_0 w2_1 => ?_)
    have H := H Lm2 w2_0 w2_1
    refine hw_k (c := 0) (b := 0) (e := 1) (by decide +kernel) ?_
    refine hw_st (L' := (jm_st1 Lm2 1 (0, 0))) (b := 1) (e := 0) (by decide +kernel) rfl ?_
    refine sf_173_192_M112 (φ0 := (hf_mp φ 194 0 361 (fun j => if j < 99 then φ 195 j else 0))) (get_st1 w2_0 (by decide) (fun q => tg2 q.2)) get_st1e  (fun Lm3 w3_0 w3_1 => ?_)
    have H := H Lm3 w3_0 w3_1
    refine hw_k (c := 0) (b := 0) (e := 1) (by decide +kernel) ?_
    refine hw_st (L' := (jm_st1 Lm3 1 (0, 0))) (b := 1) (e := 0) (by decide +kernel) rfl ?_
    refine sf_173_192_M141 (φ0 := (hf_mp (hf_mp φ 194 0 361 (fun j => if j < 99 then φ 195 j else 0)) 197 0 33 (fun j => (hf_mp φ 194 0 361 (fun j => if j < 99 then φ 195 j else 0)) 197 (33 + j)))) (get_st1 w3_0 (by decide) (fun q => tg2 q.2)) get_st1e  (fun Lm4 w4_0 w4_1 => ?_)
    have H := H Lm4 w4_0 w4_1
    refine hw_k (c := 0) (b := 0) (e := 1) (by decide +kernel) ?_
    refine hw_st (L' := (jm_st1 Lm4 1 (0, 0))) (b := 1) (e := 0) (by decide +kernel) rfl ?_
    refine sf_173_192_M173 (φ0 := (hf_mp (hf_mp (hf_mp φ 194 0 361 (fun j => if j < 99 then φ 195 j else 0)) 197 0 33 (fun j => (hf_mp φ 194 0 361 (fun j => if j < 99 then φ 195 j else 0)) 197 (33 + j))) 194 104 8 (fun j => (hf_mp (hf_mp φ 194 0 361 (fun j => if j < 99 then φ 195 j else 0)) 197 0 33 (fun j => (hf_mp φ 194 0 361 (fun j => if j < 99 then φ 195 j else 0)) 197 (33 + j))) 194 (19 + j)))) (get_st1 w4_0 (by decide) (fun q => tg2 q.2)) get_st1e  (fun Lm5 w5_0 w5_1 => ?_)
    have H := H Lm5 w5_0 w5_1
    refine hw_ald (b := 0) (e := 0) (by decide +kernel) w5_0 (by decide) ?_
    refine hw_k (c := 0) (b := 0) (e := 1) (by decide +kernel) ?_
    refine hr_pi (b := 12) (e := 22) 192 rfl (by decide +kernel) ?_
    refine hw_ald (b := 0) (e := 0) (by decide +kernel) w5_0 (by decide) ?_
    refine hr_gi (w := φ 192 19) (b := 12) (e := 19) 192 rfl (by decide +kernel) ((hf_up_ne (fun q => absurd q.2 (by decide))).trans ((hf_mp_ne (fun q => absurd q.1 (by decide))).trans ((hf_mp_ne (fun q => absurd q.1 (by decide))).trans ((hf_mp_ne (fun q => absurd q.1 (by decide))).trans (hf_mp_ne (fun q => absurd q.1 (by decide))))))) ?_
    exact hw_ret (a0 := 0) (e := 0) (by decide +kernel) (Or.inl rfl) H
  · have H := hf1 q
    refine hw_ald (b := 0) (e := 0) (by decide +kernel) g0 (by decide) ?_
    refine hr_call (a0 := 22) (b := 179) (e := 1) (nl := 1) (As := []) (R := []) 192 rfl (by decide +kernel) rfl rfl (Nat.le_of_ble_eq_true rfl) (Nat.le_of_ble_eq_true rfl) ?_
    refine hw_mono H ?_
    rintro r ψ7 y7 ⟨hyx, z7, hr, H⟩
    subst hyx
    subst hr
    refine ⟨hne0, ?_⟩
    show hw sc (d + 6) 173 41 L [(0, z7)] ψ7 y7 Q
    obtain ⟨hz8, ht8, hf8⟩ := H
    refine hw_if (a0 := 0) (b := 0) (e := 53) (by decide +kernel) hz8 (fun q => ?_) (fun q => ?_)
    · have H := ht8 q
      refine hw_k (c := (-1 : Int)) (b := 0) (e := 1) (by decide +kernel) ?_
      refine hw_ald (b := 0) (e := 0) (by decide +kernel) g0 (by decide) ?_
      refine hr_gi (w := ψ7 192 16) (b := 12) (e := 16) 192 rfl (by decide +kernel) rfl ?_
      refine hw_bin (w := (-1 : Int) - (ψ7 192 16)) (a0 := 0) (b := 1) (e := 0) (by decide +kernel) rfl ?_
      exact hw_ret (a0 := 0) (e := 0) (by decide +kernel) (Or.inl rfl) H
    · have H := hf8 q
      refine hw_ald (b := 0) (e := 0) (by decide +kernel) g0 (by decide) ?_
      refine hw_k (c := 59) (b := 1) (e := 2) (by decide +kernel) ?_
      refine hr_call (a0 := 22) (b := 198) (e := 2) (nl := 2) (As := [(0, 59)]) (R := []) 192 rfl (by decide +kernel) rfl rfl (Nat.le_of_ble_eq_true rfl) (Nat.le_of_ble_eq_true rfl) ?_
      refine hw_mono H ?_
      rintro r ψ10 y10 ⟨hyx, z10, hr, H⟩
      subst hyx
      subst hr
      refine ⟨hne0, ?_⟩
      show hw sc (d + 6) 173 50 L [(0, z10)] ψ10 y10 Q
      obtain ⟨hz11, ht11, hf11⟩ := H
      refine hw_if (a0 := 0) (b := 1) (e := 60) (by decide +kernel) hz11 (fun q => ?_) (fun q => ?_)
      · have H := ht11 q
        refine hw_ald (b := 0) (e := 0) (by decide +kernel) g0 (by decide) ?_
        refine hw_dup (a0 := 0) (e := 0) (by decide +kernel) (by decide) ?_
        refine hr_gi (w := ψ10 192 19) (b := 12) (e := 19) 192 rfl (by decide +kernel) rfl ?_
        refine hw_k (c := 1) (b := 0) (e := 1) (by decide +kernel) ?_
        refine hw_bin (w := (ψ10 192 19) + 1) (a0 := 0) (b := 0) (e := 0) (by decide +kernel) rfl ?_
        refine hr_pi (b := 12) (e := 19) 192 rfl (by decide +kernel) ?_
        refine hw_goto (a0 := 0) (b := 0) (e := 30) (by decide +kernel) ?_
        exact H
      · have H := hf11 q
        refine hw_k (c := (-1 : Int)) (b := 0) (e := 1) (by decide +kernel) ?_
        refine hw_ald (b := 0) (e := 0) (by decide +kernel) g0 (by decide) ?_
        refine hr_gi (w := ψ10 192 16) (b := 12) (e := 16) 192 rfl (by decide +kernel) rfl ?_
        refine hw_bin (w := (-1 : Int) - (ψ10 192 16)) (a0 := 0) (b := 1) (e := 0) (by decide +kernel) rfl ?_
        exact hw_ret (a0 := 0) (e := 0) (by decide +kernel) (Or.inl rfl) H
theorem sf_173_192_l30 {sc : List Int} {d x : Nat} {Q : Option jm_V → hf_F → Nat → Prop} : ∀ (n : Nat) (φ : hf_F) (L : jm_L), jm_get L 0 = some (2, 192) → Inv φ → 940 - φ 192 4 < (n : Int) → φ 192 2 = 0 → (∀ (r : Int) (ψ : hf_F), Inv ψ → Fr [194, 195, 197, 193000, 193002, 193003, 193004, 193005, 193011, 193012, 193013, 193014, 193015, 193016, 193017, 193018, 193019, 193022] φ ψ → True ∧ (ψ 192 2 = 0) → F_RideLawsModel_ride_192_l30 n φ  = (r, ψ) → Q (some (0, r)) ψ x) → hw sc (d + 6) 173 30 L [] φ x Q := by
  intro n
  induction n with
  | zero =>
    intro φ L  g0 hI hM c0 hQ
    have fm192_4 := iv_at (a := 192) (k := 4) (lo := 0) (u := 940) hI (by decide +kernel)
    exfalso
    omega
  | succ n ih =>
    intro φ L  g0 hI hM c0 hQ
    have fm192_4 := iv_at (a := 192) (k := 4) (lo := 0) (u := 940) hI (by decide +kernel)
    refine sf_173_192_v30 g0 ?_
    have e0 := F_RideLawsModel_ride_192_l30_s (φ := φ) n
    have f1 := iv_at (a := 192) (k := 11) (lo := 0) (u := 4) hI (by decide +kernel)
    refine ⟨by unfold hi; omega, fun q1 => ?_, fun q1 => ?_⟩
    · skip
      have e1a := e0.trans (if_pos q1)
      intro Lm2 w2_0 w2_1
      have i2 : Inv (hf_mp φ 194 0 361 (fun j => if j < 99 then φ 195 j else 0)) := iv_ride hI
      have r2 : Fr [194, 195, 197, 193000, 193002, 193003, 193004, 193005, 193011, 193012, 193013, 193014, 193015, 193016, 193017, 193018, 193019, 193022] φ (hf_mp φ 194 0 361 (fun j => if j < 99 then φ 195 j else 0)) := fr_mp (fr_rf) (by decide)
      intro Lm3 w3_0 w3_1
      have i3 : Inv (hf_mp (hf_mp φ 194 0 361 (fun j => if j < 99 then φ 195 j else 0)) 197 0 33 (fun j => (hf_mp φ 194 0 361 (fun j => if j < 99 then φ 195 j else 0)) 197 (33 + j))) := iv_mpn i2 (by decide +kernel)
      have r3 : Fr [194, 195, 197, 193000, 193002, 193003, 193004, 193005, 193011, 193012, 193013, 193014, 193015, 193016, 193017, 193018, 193019, 193022] φ (hf_mp (hf_mp φ 194 0 361 (fun j => if j < 99 then φ 195 j else 0)) 197 0 33 (fun j => (hf_mp φ 194 0 361 (fun j => if j < 99 then φ 195 j else 0)) 197 (33 + j))) := fr_mp r2 (by decide)
      intro Lm4 w4_0 w4_1
      have i4 : Inv (hf_mp (hf_mp (hf_mp φ 194 0 361 (fun j => if j < 99 then φ 195 j else 0)) 197 0 33 (fun j => (hf_mp φ 194 0 361 (fun j => if j < 99 then φ 195 j else 0)) 197 (33 + j))) 194 104 8 (fun j => (hf_mp (hf_mp φ 194 0 361 (fun j => if j < 99 then φ 195 j else 0)) 197 0 33 (fun j => (hf_mp φ 194 0 361 (fun j => if j < 99 then φ 195 j else 0)) 197 (33 + j))) 194 (19 + j))) := iv_mpc i3 (by decide +kernel) (by decide +kernel)
      have r4 : Fr [194, 195, 197, 193000, 193002, 193003, 193004, 193005, 193011, 193012, 193013, 193014, 193015, 193016, 193017, 193018, 193019, 193022] φ (hf_mp (hf_mp (hf_mp φ 194 0 361 (fun j => if j < 99 then φ 195 j else 0)) 197 0 33 (fun j => (hf_mp φ 194 0 361 (fun j => if j < 99 then φ 195 j else 0)) 197 (33 + j))) 194 104 8 (fun j => (hf_mp (hf_mp φ 194 0 361 (fun j => if j < 99 then φ 195 j else 0)) 197 0 33 (fun j => (hf_mp φ 194 0 361 (fun j => if j < 99 then φ 195 j else 0)) 197 (33 + j))) 194 (19 + j))) := fr_mp r3 (by decide)
      intro Lm5 w5_0 w5_1
      have i5 : Inv (hf_mp (hf_mp (hf_mp (hf_mp φ 194 0 361 (fun j => if j < 99 then φ 195 j else 0)) 197 0 33 (fun j => (hf_mp φ 194 0 361 (fun j => if j < 99 then φ 195 j else 0)) 197 (33 + j))) 194 104 8 (fun j => (hf_mp (hf_mp φ 194 0 361 (fun j => if j < 99 then φ 195 j else 0)) 197 0 33 (fun j => (hf_mp φ 194 0 361 (fun j => if j < 99 then φ 195 j else 0)) 197 (33 + j))) 194 (19 + j))) 194 112 48 (fun j => (hf_mp (hf_mp (hf_mp φ 194 0 361 (fun j => if j < 99 then φ 195 j else 0)) 197 0 33 (fun j => (hf_mp φ 194 0 361 (fun j => if j < 99 then φ 195 j else 0)) 197 (33 + j))) 194 104 8 (fun j => (hf_mp (hf_mp φ 194 0 361 (fun j => if j < 99 then φ 195 j else 0)) 197 0 33 (fun j => (hf_mp φ 194 0 361 (fun j => if j < 99 then φ 195 j else 0)) 197 (33 + j))) 194 (19 + j))) 194 (27 + j))) := iv_mpc i4 (by decide +kernel) (by decide +kernel)
      have r5 : Fr [194, 195, 197, 193000, 193002, 193003, 193004, 193005, 193011, 193012, 193013, 193014, 193015, 193016, 193017, 193018, 193019, 193022] φ (hf_mp (hf_mp (hf_mp (hf_mp φ 194 0 361 (fun j => if j < 99 then φ 195 j else 0)) 197 0 33 (fun j => (hf_mp φ 194 0 361 (fun j => if j < 99 then φ 195 j else 0)) 197 (33 + j))) 194 104 8 (fun j => (hf_mp (hf_mp φ 194 0 361 (fun j => if j < 99 then φ 195 j else 0)) 197 0 33 (fun j => (hf_mp φ 194 0 361 (fun j => if j < 99 then φ 195 j else 0)) 197 (33 + j))) 194 (19 + j))) 194 112 48 (fun j => (hf_mp (hf_mp (hf_mp φ 194 0 361 (fun j => if j < 99 then φ 195 j else 0)) 197 0 33 (fun j => (hf_mp φ 194 0 361 (fun j => if j < 99 then φ 195 j else 0)) 197 (33 + j))) 194 104 8 (fun j => (hf_mp (hf_mp φ 194 0 361 (fun j => if j < 99 then φ 195 j else 0)) 197 0 33 (fun j => (hf_mp φ 194 0 361 (fun j => if j < 99 then φ 195 j else 0)) 197 (33 + j))) 194 (19 + j))) 194 (27 + j))) := fr_mp r4 (by decide)
      have i6 : Inv (hf_up (hf_mp (hf_mp (hf_mp (hf_mp φ 194 0 361 (fun j => if j < 99 then φ 195 j else 0)) 197 0 33 (fun j => (hf_mp φ 194 0 361 (fun j => if j < 99 then φ 195 j else 0)) 197 (33 + j))) 194 104 8 (fun j => (hf_mp (hf_mp φ 194 0 361 (fun j => if j < 99 then φ 195 j else 0)) 197 0 33 (fun j => (hf_mp φ 194 0 361 (fun j => if j < 99 then φ 195 j else 0)) 197 (33 + j))) 194 (19 + j))) 194 112 48 (fun j => (hf_mp (hf_mp (hf_mp φ 194 0 361 (fun j => if j < 99 then φ 195 j else 0)) 197 0 33 (fun j => (hf_mp φ 194 0 361 (fun j => if j < 99 then φ 195 j else 0)) 197 (33 + j))) 194 104 8 (fun j => (hf_mp (hf_mp φ 194 0 361 (fun j => if j < 99 then φ 195 j else 0)) 197 0 33 (fun j => (hf_mp φ 194 0 361 (fun j => if j < 99 then φ 195 j else 0)) 197 (33 + j))) 194 (19 + j))) 194 (27 + j))) 192 22 0) := iv_up (lo := 0) (u := 8) i5 (by decide +kernel) (by omega) (by omega)
      have r6 : Fr [194, 195, 197, 193000, 193002, 193003, 193004, 193005, 193011, 193012, 193013, 193014, 193015, 193016, 193017, 193018, 193019, 193022] φ (hf_up (hf_mp (hf_mp (hf_mp (hf_mp φ 194 0 361 (fun j => if j < 99 then φ 195 j else 0)) 197 0 33 (fun j => (hf_mp φ 194 0 361 (fun j => if j < 99 then φ 195 j else 0)) 197 (33 + j))) 194 104 8 (fun j => (hf_mp (hf_mp φ 194 0 361 (fun j => if j < 99 then φ 195 j else 0)) 197 0 33 (fun j => (hf_mp φ 194 0 361 (fun j => if j < 99 then φ 195 j else 0)) 197 (33 + j))) 194 (19 + j))) 194 112 48 (fun j => (hf_mp (hf_mp (hf_mp φ 194 0 361 (fun j => if j < 99 then φ 195 j else 0)) 197 0 33 (fun j => (hf_mp φ 194 0 361 (fun j => if j < 99 then φ 195 j else 0)) 197 (33 + j))) 194 104 8 (fun j => (hf_mp (hf_mp φ 194 0 361 (fun j => if j < 99 then φ 195 j else 0)) 197 0 33 (fun j => (hf_mp φ 194 0 361 (fun j => if j < 99 then φ 195 j else 0)) 197 (33 + j))) 194 (19 + j))) 194 (27 + j))) 192 22 0) := fr_up r5 (by decide)
      have f7 : (hf_up (hf_mp (hf_mp (hf_mp (hf_mp φ 194 0 361 (fun j => if j < 99 then φ 195 j else 0)) 197 0 33 (fun j => (hf_mp φ 194 0 361 (fun j => if j < 99 then φ 195 j else 0)) 197 (33 + j))) 194 104 8 (fun j => (hf_mp (hf_mp φ 194 0 361 (fun j => if j < 99 then φ 195 j else 0)) 197 0 33 (fun j => (hf_mp φ 194 0 361 (fun j => if j < 99 then φ 195 j else 0)) 197 (33 + j))) 194 (19 + j))) 194 112 48 (fun j => (hf_mp (hf_mp (hf_mp φ 194 0 361 (fun j => if j < 99 then φ 195 j else 0)) 197 0 33 (fun j => (hf_mp φ 194 0 361 (fun j => if j < 99 then φ 195 j else 0)) 197 (33 + j))) 194 104 8 (fun j => (hf_mp (hf_mp φ 194 0 361 (fun j => if j < 99 then φ 195 j else 0)) 197 0 33 (fun j => (hf_mp φ 194 0 361 (fun j => if j < 99 then φ 195 j else 0)) 197 (33 + j))) 194 (19 + j))) 194 (27 + j))) 192 22 0) 192 2 = φ 192 2 := ((hf_up_ne (fun q => absurd q.2 (by decide))).trans ((hf_mp_ne (fun q => absurd q.1 (by decide))).trans ((hf_mp_ne (fun q => absurd q.1 (by decide))).trans ((hf_mp_ne (fun q => absurd q.1 (by decide))).trans (hf_mp_ne (fun q => absurd q.1 (by decide)))))))
      have f8 := iv_at (a := 192) (k := 2) (lo := 0) (u := 940) hI (by decide +kernel)
      exact hQ (φ 192 19) (hf_up (hf_mp (hf_mp (hf_mp (hf_mp φ 194 0 361 (fun j => if j < 99 then φ 195 j else 0)) 197 0 33 (fun j => (hf_mp φ 194 0 361 (fun j => if j < 99 then φ 195 j else 0)) 197 (33 + j))) 194 104 8 (fun j => (hf_mp (hf_mp φ 194 0 361 (fun j => if j < 99 then φ 195 j else 0)) 197 0 33 (fun j => (hf_mp φ 194 0 361 (fun j => if j < 99 then φ 195 j else 0)) 197 (33 + j))) 194 (19 + j))) 194 112 48 (fun j => (hf_mp (hf_mp (hf_mp φ 194 0 361 (fun j => if j < 99 then φ 195 j else 0)) 197 0 33 (fun j => (hf_mp φ 194 0 361 (fun j => if j < 99 then φ 195 j else 0)) 197 (33 + j))) 194 104 8 (fun j => (hf_mp (hf_mp φ 194 0 361 (fun j => if j < 99 then φ 195 j else 0)) 197 0 33 (fun j => (hf_mp φ 194 0 361 (fun j => if j < 99 then φ 195 j else 0)) 197 (33 + j))) 194 (19 + j))) 194 (27 + j))) 192 22 0) i6 r6 ⟨trivial, by omega⟩ e1a
    · skip
      have e1b := e0.trans (if_neg q1)
      refine sf_179_192 (φ := φ) hI  (fun z7 ψ7 hI7 hF7 hp7 hE7 => ⟨rfl, z7, rfl, ?_⟩)
      have hG7 : Fr [194, 195, 197, 193000, 193002, 193003, 193004, 193005, 193011, 193012, 193013, 193014, 193015, 193016, 193017, 193018, 193019, 193022] φ ψ7 := fr_tr (fr_rf) hF7 (by decide)
      have f9 := iv_at (a := 192) (k := 4) (lo := 0) (u := 940) hI (by decide +kernel)
      have f10 := iv_at (a := 192) (k := 11) (lo := 0) (u := 4) hI7 (by decide +kernel)
      have f11 := iv_at (a := 192) (k := 4) (lo := 0) (u := 940) hI7 (by decide +kernel)
      have e7 := e1b.trans (bnd_e hE7)
      refine ⟨by unfold hi; omega, fun q8 => ?_, fun q8 => ?_⟩
      · skip
        have e8a := e7.trans (if_pos q8)
        have f12 := iv_at (a := 192) (k := 16) (lo := 0) (u := 940) hI7 (by decide +kernel)
        have f13 := iv_at (a := 192) (k := 2) (lo := 0) (u := 940) hI7 (by decide +kernel)
        have f14 : ψ7 192 2 = φ 192 2 := (fr_fd hF7 192 2 (by decide))
        have f15 := iv_at (a := 192) (k := 2) (lo := 0) (u := 940) hI (by decide +kernel)
        exact hQ ((-1 : Int) - (ψ7 192 16)) ψ7 hI7 hG7 ⟨trivial, by omega⟩ e8a
      · skip
        have e8b := e7.trans (if_neg q8)
        refine sf_198_192 (φ := ψ7) hI7 (by omega) (by omega) (fun z10 ψ10 hI10 hF10 hp10 hE10 => ⟨rfl, z10, rfl, ?_⟩)
        have hG10 : Fr [194, 195, 197, 193000, 193002, 193003, 193004, 193005, 193011, 193012, 193013, 193014, 193015, 193016, 193017, 193018, 193019, 193022] φ ψ10 := fr_tr hG7 hF10 (by decide)
        have f16 := iv_at (a := 192) (k := 30) (lo := 0) (u := 40) hI7 (by decide +kernel)
        have f17 : ψ7 192 30 = φ 192 30 := (fr_fd hF7 192 30 (by decide))
        have f18 := iv_at (a := 192) (k := 30) (lo := 0) (u := 40) hI (by decide +kernel)
        have f19 := iv_at (a := 192) (k := 30) (lo := 0) (u := 40) hI10 (by decide +kernel)
        have f20 : ψ10 192 30 = ψ7 192 30 := (fr_fd hF10 192 30 (by decide))
        have f21 := iv_at (a := 192) (k := 4) (lo := 0) (u := 940) hI10 (by decide +kernel)
        have e10 := e8b.trans (bnd_e hE10)
        refine ⟨by unfold hi; omega, fun q11 => ?_, fun q11 => ?_⟩
        · skip
          have e11a := e10.trans (if_pos q11)
          have f22 : ψ10 192 19 = ψ7 192 19 := (fr_fd hF10 192 19 (by decide))
          have f23 : ψ7 192 19 = φ 192 19 := (fr_fd hF7 192 19 (by decide))
          have i24 : Inv (hf_up ψ10 192 19 ((ψ10 192 19) + 1)) := iv_upn hI10 (by decide) (by decide) (by decide +kernel)
          have r24 : Fr [194, 195, 197, 193000, 193002, 193003, 193004, 193005, 193011, 193012, 193013, 193014, 193015, 193016, 193017, 193018, 193019, 193022] φ (hf_up ψ10 192 19 ((ψ10 192 19) + 1)) := fr_up hG10 (by decide)
          have f25 : (hf_up ψ10 192 19 ((ψ10 192 19) + 1)) 192 2 = ψ10 192 2 := (hf_up_ne (fun q => absurd q.2 (by decide)))
          have f26 := iv_at (a := 192) (k := 2) (lo := 0) (u := 940) hI10 (by decide +kernel)
          have f27 : ψ10 192 2 = ψ7 192 2 := (fr_fd hF10 192 2 (by decide))
          have f28 := iv_at (a := 192) (k := 2) (lo := 0) (u := 940) hI7 (by decide +kernel)
          have f29 : ψ7 192 2 = φ 192 2 := (fr_fd hF7 192 2 (by decide))
          have f30 := iv_at (a := 192) (k := 2) (lo := 0) (u := 940) hI (by decide +kernel)
          have f31 : (hf_up ψ10 192 19 ((ψ10 192 19) + 1)) 192 4 = ψ10 192 4 := (hf_up_ne (fun q => absurd q.2 (by decide)))
          exact ih (hf_up ψ10 192 19 ((ψ10 192 19) + 1)) L  g0 i24 (by omega) (by omega) (fun rr χ hIχ hFχ hpχ hEχ => hQ rr χ hIχ (fr_tr r24 hFχ (by decide)) hpχ (e11a.trans hEχ))
        · skip
          have e11b := e10.trans (if_neg q11)
          have f32 := iv_at (a := 192) (k := 16) (lo := 0) (u := 940) hI10 (by decide +kernel)
          have f33 := iv_at (a := 192) (k := 2) (lo := 0) (u := 940) hI10 (by decide +kernel)
          have f34 : ψ10 192 2 = ψ7 192 2 := (fr_fd hF10 192 2 (by decide))
          have f35 := iv_at (a := 192) (k := 2) (lo := 0) (u := 940) hI7 (by decide +kernel)
          have f36 : ψ7 192 2 = φ 192 2 := (fr_fd hF7 192 2 (by decide))
          have f37 := iv_at (a := 192) (k := 2) (lo := 0) (u := 940) hI (by decide +kernel)
          exact hQ ((-1 : Int) - (ψ10 192 16)) ψ10 hI10 hG10 ⟨trivial, by omega⟩ e11b
theorem sf_173_192_v {sc : List Int} {d : Nat} {φ : hf_F} {x : Nat} {Q : Option jm_V → hf_F → Nat → Prop} 
    (H : hw sc (d + 5) 174 0 [(0, (2, 192)), (1, (0, 900))] [] (hf_up φ 192 0 0) x (fun r ψ1 y1 => y1 = x ∧ (r = none ∧ (hw sc (d + 5) 172 0 [(0, (2, 192))] [] (hf_up (hf_up ψ1 192 15 0) 192 19 0) x (fun r ψ2 y2 => y2 = x ∧ (r = none ∧ (hw sc (d + 5) 175 0 [(0, (2, 192))] [] ψ2 x (fun r ψ3 y3 => y3 = x ∧ (r = none ∧ (hw sc (d + 6) 173 30 [(0, (2, 192))] [] ψ3 x Q)))))))))) :
    hw sc (d + 6) 173 0 [(0, (2, 192))] [] φ x Q := by
  refine hw_ald (b := 0) (e := 0) (by decide +kernel) rfl (by decide) ?_
  refine hw_k (c := 0) (b := 0) (e := 1) (by decide +kernel) ?_
  refine hr_pi (b := 12) (e := 0) 192 rfl (by decide +kernel) ?_
  refine hw_ald (b := 0) (e := 0) (by decide +kernel) rfl (by decide) ?_
  refine hw_k (c := 900) (b := 2) (e := 3) (by decide +kernel) ?_
  refine hr_call (a0 := 22) (b := 174) (e := 2) (nl := 2) (As := [(0, 900)]) (R := []) 192 rfl (by decide +kernel) rfl rfl (Nat.le_of_ble_eq_true rfl) (Nat.le_of_ble_eq_true rfl) ?_
  refine hw_mono H ?_
  rintro r ψ1 y1 ⟨hyx, hr, H⟩
  subst hyx
  subst hr
  refine ⟨hnen, ?_⟩
  show hw sc (d + 6) 173 12 [(0, (2, 192))] [] ψ1 y1 Q
  refine hw_ald (b := 0) (e := 0) (by decide +kernel) rfl (by decide) ?_
  refine hw_k (c := 0) (b := 0) (e := 1) (by decide +kernel) ?_
  refine hr_pi (b := 12) (e := 15) 192 rfl (by decide +kernel) ?_
  refine hw_ald (b := 0) (e := 0) (by decide +kernel) rfl (by decide) ?_
  refine hw_k (c := 0) (b := 0) (e := 1) (by decide +kernel) ?_
  refine hr_pi (b := 12) (e := 19) 192 rfl (by decide +kernel) ?_
  refine hw_ald (b := 0) (e := 0) (by decide +kernel) rfl (by decide) ?_
  refine hr_call (a0 := 22) (b := 172) (e := 1) (nl := 2) (As := []) (R := []) 192 rfl (by decide +kernel) rfl rfl (Nat.le_of_ble_eq_true rfl) (Nat.le_of_ble_eq_true rfl) ?_
  refine hw_mono H ?_
  rintro r ψ2 y2 ⟨hyx, hr, H⟩
  subst hyx
  subst hr
  refine ⟨hnen, ?_⟩
  show hw sc (d + 6) 173 26 [(0, (2, 192))] [] ψ2 y2 Q
  refine hw_ald (b := 0) (e := 0) (by decide +kernel) rfl (by decide) ?_
  refine hr_call (a0 := 22) (b := 175) (e := 1) (nl := 4) (As := []) (R := []) 192 rfl (by decide +kernel) rfl rfl (Nat.le_of_ble_eq_true rfl) (Nat.le_of_ble_eq_true rfl) ?_
  refine hw_mono H ?_
  rintro r ψ3 y3 ⟨hyx, hr, H⟩
  subst hyx
  subst hr
  refine ⟨hnen, ?_⟩
  show hw sc (d + 6) 173 30 [(0, (2, 192))] [] ψ3 y3 Q
  exact H
theorem sf_173_192 {sc : List Int} {d : Nat} {φ : hf_F} {x : Nat} {Q : Option jm_V → hf_F → Nat → Prop}  (hI : Inv φ)  (hQ : ∀ (r : Int) (ψ : hf_F), Inv ψ → Fr [194, 195, 197, 193000, 193002, 193003, 193004, 193005, 193011, 193012, 193013, 193014, 193015, 193016, 193017, 193018, 193019, 193022] φ ψ → True ∧ (ψ 192 2 = 0) → F_RideLawsModel_ride_192 φ = (r, ψ) → Q (some (0, r)) ψ x) : hw sc (d + 6) 173 0 [(0, (2, 192))] [] φ x Q := by
  apply sf_173_192_v
  have e0 : F_RideLawsModel_ride_192 φ = _ := rfl
  have i1 : Inv (hf_up φ 192 0 0) := iv_up (lo := 0) (u := 1) hI (by decide +kernel) (by omega) (by omega)
  have r1 : Fr [194, 195, 197, 193000, 193002, 193003, 193004, 193005, 193011, 193012, 193013, 193014, 193015, 193016, 193017, 193018, 193019, 193022] φ (hf_up φ 192 0 0) := fr_up (fr_rf) (by decide)
  refine sf_174_192 (φ := (hf_up φ 192 0 0)) i1 (by omega) (by omega) (fun ψ1 hI1 hF1 hV1 hE1 => ⟨rfl, rfl, ?_⟩)
  have hG1 : Fr [194, 195, 197, 193000, 193002, 193003, 193004, 193005, 193011, 193012, 193013, 193014, 193015, 193016, 193017, 193018, 193019, 193022] φ ψ1 := fr_tr r1 hF1 (by decide)
  have f2 := iv_at (a := 192) (k := 2) (lo := 0) (u := 940) hI1 (by decide +kernel)
  have e1 := e0.trans (bnv_e hE1)
  have i3 : Inv (hf_up ψ1 192 15 0) := iv_up (lo := 0) (u := 4) hI1 (by decide +kernel) (by omega) (by omega)
  have r3 : Fr [194, 195, 197, 193000, 193002, 193003, 193004, 193005, 193011, 193012, 193013, 193014, 193015, 193016, 193017, 193018, 193019, 193022] φ (hf_up ψ1 192 15 0) := fr_up hG1 (by decide)
  have i4 : Inv (hf_up (hf_up ψ1 192 15 0) 192 19 0) := iv_upn i3 (by decide) (by decide) (by decide +kernel)
  have r4 : Fr [194, 195, 197, 193000, 193002, 193003, 193004, 193005, 193011, 193012, 193013, 193014, 193015, 193016, 193017, 193018, 193019, 193022] φ (hf_up (hf_up ψ1 192 15 0) 192 19 0) := fr_up r3 (by decide)
  refine sf_172_192 (φ := (hf_up (hf_up ψ1 192 15 0) 192 19 0)) i4  (fun ψ2 hI2 hF2 hE2 => ⟨rfl, rfl, ?_⟩)
  have hG2 : Fr [194, 195, 197, 193000, 193002, 193003, 193004, 193005, 193011, 193012, 193013, 193014, 193015, 193016, 193017, 193018, 193019, 193022] φ ψ2 := fr_tr r4 hF2 (by decide)
  have e2 := e1.trans (bnv_e hE2)
  refine sf_175_192 (φ := ψ2) hI2  (fun ψ3 hI3 hF3 hV3 hE3 => ⟨rfl, rfl, ?_⟩)
  have hG3 : Fr [194, 195, 197, 193000, 193002, 193003, 193004, 193005, 193011, 193012, 193013, 193014, 193015, 193016, 193017, 193018, 193019, 193022] φ ψ3 := fr_tr hG2 hF3 (by decide)
  have f5 := iv_at (a := 192) (k := 18) (lo := (-1 : Int)) (u := 999) hI2 (by decide +kernel)
  have f6 : ψ2 192 18 = ψ1 192 18 := (fr_fd hF2 192 18 (by decide)).trans ((hf_up_ne (fun q => absurd q.2 (by decide))).trans (hf_up_ne (fun q => absurd q.2 (by decide))))
  have f7 := iv_at (a := 192) (k := 18) (lo := (-1 : Int)) (u := 999) hI1 (by decide +kernel)
  have f8 : ψ1 192 18 = φ 192 18 := (fr_fd hF1 192 18 (by decide)).trans (hf_up_ne (fun q => absurd q.2 (by decide)))
  have f9 := iv_at (a := 192) (k := 18) (lo := (-1 : Int)) (u := 999) hI (by decide +kernel)
  have f10 := iv_at (a := 192) (k := 30) (lo := 0) (u := 40) hI2 (by decide +kernel)
  have f11 : ψ2 192 30 = ψ1 192 30 := (fr_fd hF2 192 30 (by decide)).trans ((hf_up_ne (fun q => absurd q.2 (by decide))).trans (hf_up_ne (fun q => absurd q.2 (by decide))))
  have f12 := iv_at (a := 192) (k := 30) (lo := 0) (u := 40) hI1 (by decide +kernel)
  have f13 : ψ1 192 30 = φ 192 30 := (fr_fd hF1 192 30 (by decide)).trans (hf_up_ne (fun q => absurd q.2 (by decide)))
  have f14 := iv_at (a := 192) (k := 30) (lo := 0) (u := 40) hI (by decide +kernel)
  have f15 := iv_at (a := 192) (k := 34) (lo := 0) (u := 45) hI2 (by decide +kernel)
  have f16 : ψ2 192 34 = ψ1 192 34 := (fr_fd hF2 192 34 (by decide)).trans ((hf_up_ne (fun q => absurd q.2 (by decide))).trans (hf_up_ne (fun q => absurd q.2 (by decide))))
  have f17 := iv_at (a := 192) (k := 34) (lo := 0) (u := 45) hI1 (by decide +kernel)
  have f18 : ψ1 192 34 = φ 192 34 := (fr_fd hF1 192 34 (by decide)).trans (hf_up_ne (fun q => absurd q.2 (by decide)))
  have f19 := iv_at (a := 192) (k := 34) (lo := 0) (u := 45) hI (by decide +kernel)
  have f20 := iv_at (a := 192) (k := 35) (lo := 0) (u := 20) hI2 (by decide +kernel)
  have f21 : ψ2 192 35 = ψ1 192 35 := (fr_fd hF2 192 35 (by decide)).trans ((hf_up_ne (fun q => absurd q.2 (by decide))).trans (hf_up_ne (fun q => absurd q.2 (by decide))))
  have f22 := iv_at (a := 192) (k := 35) (lo := 0) (u := 20) hI1 (by decide +kernel)
  have f23 : ψ1 192 35 = φ 192 35 := (fr_fd hF1 192 35 (by decide)).trans (hf_up_ne (fun q => absurd q.2 (by decide)))
  have f24 := iv_at (a := 192) (k := 35) (lo := 0) (u := 20) hI (by decide +kernel)
  have f25 := iv_at (a := 192) (k := 36) (lo := 0) (u := 45) hI2 (by decide +kernel)
  have f26 : ψ2 192 36 = ψ1 192 36 := (fr_fd hF2 192 36 (by decide)).trans ((hf_up_ne (fun q => absurd q.2 (by decide))).trans (hf_up_ne (fun q => absurd q.2 (by decide))))
  have f27 := iv_at (a := 192) (k := 36) (lo := 0) (u := 45) hI1 (by decide +kernel)
  have f28 : ψ1 192 36 = φ 192 36 := (fr_fd hF1 192 36 (by decide)).trans (hf_up_ne (fun q => absurd q.2 (by decide)))
  have f29 := iv_at (a := 192) (k := 36) (lo := 0) (u := 45) hI (by decide +kernel)
  have f30 := iv_at (a := 192) (k := 38) (lo := 0) (u := 1) hI2 (by decide +kernel)
  have f31 : ψ2 192 38 = ψ1 192 38 := (fr_fd hF2 192 38 (by decide)).trans ((hf_up_ne (fun q => absurd q.2 (by decide))).trans (hf_up_ne (fun q => absurd q.2 (by decide))))
  have f32 := iv_at (a := 192) (k := 38) (lo := 0) (u := 1) hI1 (by decide +kernel)
  have f33 : ψ1 192 38 = φ 192 38 := (fr_fd hF1 192 38 (by decide)).trans (hf_up_ne (fun q => absurd q.2 (by decide)))
  have f34 := iv_at (a := 192) (k := 38) (lo := 0) (u := 1) hI (by decide +kernel)
  have f35 := iv_at (a := 192) (k := 4) (lo := 0) (u := 940) hI2 (by decide +kernel)
  have f36 : ψ2 192 4 = ψ1 192 4 := (fr_fd hF2 192 4 (by decide)).trans ((hf_up_ne (fun q => absurd q.2 (by decide))).trans (hf_up_ne (fun q => absurd q.2 (by decide))))
  have f37 := iv_at (a := 192) (k := 4) (lo := 0) (u := 940) hI1 (by decide +kernel)
  have f38 := iv_at (a := 192) (k := 11) (lo := 0) (u := 4) hI3 (by decide +kernel)
  have f39 := iv_at (a := 192) (k := 18) (lo := (-1 : Int)) (u := 999) hI3 (by decide +kernel)
  have f40 : ψ3 192 18 = ψ2 192 18 := (fr_fd hF3 192 18 (by decide))
  have f41 := iv_at (a := 192) (k := 30) (lo := 0) (u := 40) hI3 (by decide +kernel)
  have f42 : ψ3 192 30 = ψ2 192 30 := (fr_fd hF3 192 30 (by decide))
  have f43 := iv_at (a := 192) (k := 34) (lo := 0) (u := 45) hI3 (by decide +kernel)
  have f44 : ψ3 192 34 = ψ2 192 34 := (fr_fd hF3 192 34 (by decide))
  have f45 := iv_at (a := 192) (k := 35) (lo := 0) (u := 20) hI3 (by decide +kernel)
  have f46 : ψ3 192 35 = ψ2 192 35 := (fr_fd hF3 192 35 (by decide))
  have f47 := iv_at (a := 192) (k := 36) (lo := 0) (u := 45) hI3 (by decide +kernel)
  have f48 : ψ3 192 36 = ψ2 192 36 := (fr_fd hF3 192 36 (by decide))
  have f49 := iv_at (a := 192) (k := 38) (lo := 0) (u := 1) hI3 (by decide +kernel)
  have f50 : ψ3 192 38 = ψ2 192 38 := (fr_fd hF3 192 38 (by decide))
  have f51 := iv_at (a := 192) (k := 4) (lo := 0) (u := 940) hI3 (by decide +kernel)
  have e3 := e2.trans (bnv_e hE3)
  have f52 := iv_at (a := 192) (k := 2) (lo := 0) (u := 940) hI3 (by decide +kernel)
  have f53 : ψ3 192 2 = ψ2 192 2 := (fr_fd hF3 192 2 (by decide))
  have f54 := iv_at (a := 192) (k := 2) (lo := 0) (u := 940) hI2 (by decide +kernel)
  have f55 : ψ2 192 2 = ψ1 192 2 := (fr_fd hF2 192 2 (by decide)).trans ((hf_up_ne (fun q => absurd q.2 (by decide))).trans (hf_up_ne (fun q => absurd q.2 (by decide))))
  exact sf_173_192_l30 ((940 - ψ3 192 4 : Int).toNat + 1) ψ3 [(0, (2, 192))]  rfl hI3 (by omega) (by omega) (fun rr χ hIχ hFχ hpχ hEχ => hQ rr χ hIχ (fr_tr hG3 hFχ (by decide)) hpχ (e3.trans hEχ))
theorem sf_213_192_v4 {sc : List Int} {d : Nat} {φ : hf_F} {x : Nat} {Q : Option jm_V → hf_F → Nat → Prop} {L : jm_L} {l1 l2 : Int} (g0 : jm_get L 0 = some (2, 192)) (g1 : jm_get L 1 = some (0, l1)) (g2 : jm_get L 2 = some (0, l2))
    (H : hi l2 ∧ hi (φ 194 3) ∧ ((φ 194 3) ≤ l2 → Q (some (0, l1)) φ x) ∧ (¬ (φ 194 3) ≤ l2 → 0 ≤ (166 + l2) ∧ (166 + l2) < 361 ∧ (hw sc d 213 4 (jm_st1 (jm_st1 L 1 (0, l1 + (φ 194 ((166 + l2).toNat)))) 2 (0, l2 + 1)) [] φ x Q))) :
    hw sc d 213 4 L [] φ x Q := by
  refine hw_ld (b := 2) (e := 0) (by decide +kernel) g2 ?_
  refine hw_ald (b := 0) (e := 0) (by decide +kernel) g0 (by decide) ?_
  refine hr_gr (w := 194) (b := 12) (e := 6) 192 rfl (by decide +kernel) ?_
  refine hw_k (c := 3) (b := 0) (e := 1) (by decide +kernel) ?_
  refine hr_al (b := 0) (a0 := 0) (e := 0) (n := 361) (w := φ 194 3) 194 rfl (by decide +kernel) (by decide) (by decide) (by decide) rfl ?_
  obtain ⟨hz1, hy1, ht1, hf1⟩ := H
  refine hw_if2 (a0 := 0) (b := 3) (e := 33) (by decide +kernel) hz1 hy1 (fun q => ?_) (fun q => ?_)
  · have H := ht1 q
    refine hw_ld (b := 1) (e := 0) (by decide +kernel) g1 ?_
    exact hw_ret (a0 := 0) (e := 0) (by decide +kernel) (Or.inl rfl) H
  · have H := hf1 q
    refine hw_ld (b := 1) (e := 0) (by decide +kernel) g1 ?_
    refine hw_ald (b := 0) (e := 0) (by decide +kernel) g0 (by decide) ?_
    refine hr_gr (w := 194) (b := 12) (e := 6) 192 rfl (by decide +kernel) ?_
    refine hw_k (c := 166) (b := 2) (e := 3) (by decide +kernel) ?_
    refine hw_ld (b := 2) (e := 0) (by decide +kernel) g2 ?_
    refine hw_bin (w := 166 + l2) (a0 := 0) (b := 0) (e := 0) (by decide +kernel) rfl ?_
    obtain ⟨hl3, hu3, H⟩ := H
    refine hr_al (b := 0) (a0 := 0) (e := 0) (n := 361) (w := φ 194 ((166 + l2).toNat)) 194 rfl (by decide +kernel) (by decide) hl3 hu3 rfl ?_
    refine hw_bin (w := l1 + (φ 194 ((166 + l2).toNat))) (a0 := 0) (b := 0) (e := 0) (by decide +kernel) rfl ?_
    refine hw_st (L' := (jm_st1 L 1 (0, l1 + (φ 194 ((166 + l2).toNat))))) (b := 1) (e := 0) (by decide +kernel) rfl ?_
    refine hw_inc (L' := (jm_st1 (jm_st1 L 1 (0, l1 + (φ 194 ((166 + l2).toNat)))) 2 (0, l2 + 1))) (c := 1) (b := 2) (e := 0) (by decide +kernel) (get_st1 g2 (by decide) (fun q => absurd q.1 (by decide))) rfl ?_
    refine hw_goto (a0 := 0) (b := 0) (e := 4) (by decide +kernel) ?_
    exact H
theorem sf_213_192_l4 {sc : List Int} {d x : Nat} {Q : Option jm_V → hf_F → Nat → Prop} : ∀ (n : Nat) (φ : hf_F) (L : jm_L) (l1 l2 : Int), jm_get L 0 = some (2, 192) → jm_get L 1 = some (0, l1) → jm_get L 2 = some (0, l2) → Inv φ → 6 - l2 < (n : Int) → 0 ≤ l2 → l2 ≤ 6 → l1 = sxi φ (l2).toNat → l2 ≤ φ 194 3 → (∀ (r : Int), True ∧ r = sxa φ → F_RideLawsModel_saidInAll_192_l4 n φ l1 l2 = r → Q (some (0, r)) φ x) → hw sc d 213 4 L [] φ x Q := by
  intro n
  induction n with
  | zero =>
    intro φ L l1 l2 g0 g1 g2 hI hM b2a b2b c0 c1 hQ
    exfalso
    omega
  | succ n ih =>
    intro φ L l1 l2 g0 g1 g2 hI hM b2a b2b c0 c1 hQ
    refine sf_213_192_v4 g0 g1 g2 ?_
    have ffx71320 := sxi_s φ l2 b2a
    have e0 := F_RideLawsModel_saidInAll_192_l4_s (φ := φ) (l1 := l1) (l2 := l2) n
    have f1 := iv_at (a := 194) (k := 3) (lo := 0) (u := 6) hI (by decide +kernel)
    refine ⟨by unfold hi; omega, by unfold hi; omega, fun q1 => ?_, fun q1 => ?_⟩
    · skip
      have e1a := e0.trans (if_pos q1)
      exact hQ l1 ⟨trivial, by have e : l2 = φ 194 3 := (by omega); show l1 = sxi φ (φ 194 3).toNat; rw [← e]; exact c0⟩ e1a
    · skip
      have e1b := e0.trans (if_neg q1)
      refine ⟨by omega, by omega, ?_⟩
      exact ih φ (jm_st1 (jm_st1 L 1 (0, l1 + (φ 194 ((166 + l2).toNat)))) 2 (0, l2 + 1)) (l1 + (φ 194 ((166 + l2).toNat))) (l2 + 1) (get_st1 (get_st1 g0 (by decide) (fun q => tg2 q.2)) (by decide) (fun q => absurd q.1 (by decide))) (get_st1 get_st1e (by decide) (fun q => tg0 q.2)) get_st1e hI (by omega) (by omega) (by omega) (by omega) (by omega) (fun rr hpχ hEχ => hQ rr hpχ (e1b.trans hEχ))
theorem sf_213_192_v {sc : List Int} {d : Nat} {φ : hf_F} {x : Nat} {Q : Option jm_V → hf_F → Nat → Prop} 
    (H : hw sc d 213 4 (jm_st1 (jm_st1 [(0, (2, 192))] 1 (0, 0)) 2 (0, 0)) [] φ x Q) :
    hw sc d 213 0 [(0, (2, 192))] [] φ x Q := by
  refine hw_k (c := 0) (b := 0) (e := 1) (by decide +kernel) ?_
  refine hw_st (L' := (jm_st1 [(0, (2, 192))] 1 (0, 0))) (b := 1) (e := 0) (by decide +kernel) rfl ?_
  refine hw_k (c := 0) (b := 0) (e := 1) (by decide +kernel) ?_
  refine hw_st (L' := (jm_st1 (jm_st1 [(0, (2, 192))] 1 (0, 0)) 2 (0, 0))) (b := 2) (e := 0) (by decide +kernel) rfl ?_
  exact H
theorem sf_213_192 {sc : List Int} {d : Nat} {φ : hf_F} {x : Nat} {Q : Option jm_V → hf_F → Nat → Prop}  (hI : Inv φ)  (hQ : ∀ (r : Int), True ∧ r = sxa φ → F_RideLawsModel_saidInAll_192 φ = r → Q (some (0, r)) φ x) : hw sc d 213 0 [(0, (2, 192))] [] φ x Q := by
  apply sf_213_192_v
  have ffm0 := sxi_0 φ
  have e0 : F_RideLawsModel_saidInAll_192 φ = _ := rfl
  have f1 := iv_at (a := 194) (k := 3) (lo := 0) (u := 6) hI (by decide +kernel)
  exact sf_213_192_l4 ((6 - 0 : Int).toNat + 1) φ (jm_st1 (jm_st1 [(0, (2, 192))] 1 (0, 0)) 2 (0, 0)) 0 0 (get_st1 (get_st1 rfl (by decide) (fun q => tg2 q.2)) (by decide) (fun q => absurd q.1 (by decide))) (get_st1 get_st1e (by decide) (fun q => tg0 q.2)) get_st1e hI (by omega) (by omega) (by omega) (by omega) (by omega) (fun rr hpχ hEχ => hQ rr hpχ (e0.trans hEχ))
theorem sf_203_192_v {sc : List Int} {d : Nat} {φ : hf_F} {x : Nat} {Q : Option jm_V → hf_F → Nat → Prop} {v1 : Int}
    (H : hi v1 ∧ (v1 = 0 → (v1 = 0 ∨ v1 = 1) ∧ Q (some (0, v1)) (hf_up φ 192 0 0) x) ∧ (¬ v1 = 0 → (v1 = 0 ∨ v1 = 1) ∧ Q (some (0, v1)) (hf_up φ 192 0 1) x)) :
    hw sc d 203 0 [(0, (2, 192)), (1, (0, v1))] [] φ x Q := by
  refine hw_ald (b := 0) (e := 0) (by decide +kernel) rfl (by decide) ?_
  refine hw_ld (b := 1) (e := 0) (by decide +kernel) rfl ?_
  obtain ⟨hz1, ht1, hf1⟩ := H
  refine hw_if (a0 := 0) (b := 0) (e := 9) (by decide +kernel) hz1 (fun q => ?_) (fun q => ?_)
  · have H := ht1 q
    refine hw_k (c := 0) (b := 0) (e := 1) (by decide +kernel) ?_
    refine hr_pi (b := 12) (e := 0) 192 rfl (by decide +kernel) ?_
    refine hw_ld (b := 1) (e := 0) (by decide +kernel) rfl ?_
    exact hw_ret (a0 := 0) (e := 1) (by decide +kernel) (Or.inr ⟨rfl, H.1⟩) H.2
  · have H := hf1 q
    refine hw_k (c := 1) (b := 0) (e := 1) (by decide +kernel) ?_
    refine hw_goto (a0 := 0) (b := 0) (e := 10) (by decide +kernel) ?_
    refine hr_pi (b := 12) (e := 0) 192 rfl (by decide +kernel) ?_
    refine hw_ld (b := 1) (e := 0) (by decide +kernel) rfl ?_
    exact hw_ret (a0 := 0) (e := 1) (by decide +kernel) (Or.inr ⟨rfl, H.1⟩) H.2
theorem sf_203_192 {sc : List Int} {d : Nat} {φ : hf_F} {x : Nat} {Q : Option jm_V → hf_F → Nat → Prop} {v1 : Int} (hI : Inv φ) (h1a : 0 ≤ v1) (h1b : v1 ≤ 1) (hQ : ∀ (r : Int) (ψ : hf_F), Inv ψ → Fr [193000] φ ψ → 0 ≤ r ∧ r ≤ 1 ∧ r = v1 → F_RideLawsModel_throwsIf_192 φ v1 = (r, ψ) → Q (some (0, r)) ψ x) : hw sc d 203 0 [(0, (2, 192)), (1, (0, v1))] [] φ x Q := by
  apply sf_203_192_v
  have e0 : F_RideLawsModel_throwsIf_192 φ v1 = _ := rfl
  refine ⟨by unfold hi; omega, fun q1 => ?_, fun q1 => ?_⟩
  · skip
    have e1a := e0.trans (if_pos q1)
    have i1 : Inv (hf_up φ 192 0 0) := iv_up (lo := 0) (u := 1) hI (by decide +kernel) (by omega) (by omega)
    have r1 : Fr [193000] φ (hf_up φ 192 0 0) := fr_up (fr_rf) (by decide)
    refine ⟨by omega, ?_⟩
    exact hQ v1 (hf_up φ 192 0 0) i1 r1 ⟨by omega, by omega, by omega⟩ e1a
  · skip
    have e1b := e0.trans (if_neg q1)
    have i2 : Inv (hf_up φ 192 0 1) := iv_up (lo := 0) (u := 1) hI (by decide +kernel) (by omega) (by omega)
    have r2 : Fr [193000] φ (hf_up φ 192 0 1) := fr_up (fr_rf) (by decide)
    refine ⟨by omega, ?_⟩
    exact hQ v1 (hf_up φ 192 0 1) i2 r2 ⟨by omega, by omega, by omega⟩ e1b
theorem sf_201_192_v {sc : List Int} {d : Nat} {φ : hf_F} {x : Nat} {Q : Option jm_V → hf_F → Nat → Prop} {v1 v2 : Int}
    (H : hw sc (d + 1) 202 0 [(0, (2, 192)), (1, (0, v1))] [] φ x (fun r ψ1 y1 => y1 = x ∧ φ = ψ1 ∧ (∃ z1 : Int, r = some (0, z1) ∧ (hi z1 ∧ (z1 = 0 → hw sc (d + 1) 203 0 [(0, (2, 192)), (1, (0, 1))] [] φ x (fun r ψ3 y3 => y3 = x ∧ (∃ z3 : Int, r = some (0, z3) ∧ (hi z3 ∧ (z3 = 0 → hi v2 ∧ (v2 = 0 → 0 ≤ (112 + v1) ∧ (112 + v1) < 361 ∧ (Q (some (0, (ψ3 194 ((112 + v1).toNat)) - 1)) ψ3 x)) ∧ (v2 = 1 → 0 ≤ (118 + v1) ∧ (118 + v1) < 361 ∧ (Q (some (0, ψ3 194 ((118 + v1).toNat))) ψ3 x)) ∧ (v2 = 2 → hw sc (d + 1) 204 0 [(0, (2, 192)), (1, (0, v1))] [] ψ3 x (fun r ψ10 y10 => y10 = x ∧ ψ3 = ψ10 ∧ (∃ z10 : Int, r = some (0, z10) ∧ (Q (some (0, z10)) ψ3 x)))) ∧ (v2 = 3 → 0 ≤ (166 + v1) ∧ (166 + v1) < 361 ∧ (Q (some (0, ψ3 194 ((166 + v1).toNat))) ψ3 x)) ∧ ((v2 < 0 ∨ 4 ≤ v2) → hw sc (d + 1) 205 0 [(0, (2, 192)), (1, (0, v1))] [] ψ3 x (fun r ψ14 y14 => y14 = x ∧ ψ3 = ψ14 ∧ (∃ z14 : Int, r = some (0, z14) ∧ (Q (some (0, z14)) ψ3 x))))) ∧ (¬ z3 = 0 → Q (some (0, 0)) ψ3 x))))) ∧ (¬ z1 = 0 → hw sc (d + 1) 188 0 [(0, (0, v2)), (1, (0, 0)), (2, (0, 4))] [] φ x (fun r ψ17 y17 => y17 = x ∧ φ = ψ17 ∧ (∃ z17 : Int, r = some (0, z17) ∧ (hi z17 ∧ (¬ z17 = 0 → hw sc (d + 1) 203 0 [(0, (2, 192)), (1, (0, 0))] [] φ x (fun r ψ19 y19 => y19 = x ∧ (∃ z19 : Int, r = some (0, z19) ∧ (hi z19 ∧ (z19 = 0 → hi v2 ∧ (v2 = 0 → 0 ≤ (112 + v1) ∧ (112 + v1) < 361 ∧ (Q (some (0, (ψ19 194 ((112 + v1).toNat)) - 1)) ψ19 x)) ∧ (v2 = 1 → 0 ≤ (118 + v1) ∧ (118 + v1) < 361 ∧ (Q (some (0, ψ19 194 ((118 + v1).toNat))) ψ19 x)) ∧ (v2 = 2 → hw sc (d + 1) 204 0 [(0, (2, 192)), (1, (0, v1))] [] ψ19 x (fun r ψ26 y26 => y26 = x ∧ ψ19 = ψ26 ∧ (∃ z26 : Int, r = some (0, z26) ∧ (Q (some (0, z26)) ψ19 x)))) ∧ (v2 = 3 → 0 ≤ (166 + v1) ∧ (166 + v1) < 361 ∧ (Q (some (0, ψ19 194 ((166 + v1).toNat))) ψ19 x)) ∧ ((v2 < 0 ∨ 4 ≤ v2) → hw sc (d + 1) 205 0 [(0, (2, 192)), (1, (0, v1))] [] ψ19 x (fun r ψ30 y30 => y30 = x ∧ ψ19 = ψ30 ∧ (∃ z30 : Int, r = some (0, z30) ∧ (Q (some (0, z30)) ψ19 x))))) ∧ (¬ z19 = 0 → Q (some (0, 0)) ψ19 x))))) ∧ (¬ (¬ z17 = 0) → hw sc (d + 1) 203 0 [(0, (2, 192)), (1, (0, 1))] [] φ x (fun r ψ33 y33 => y33 = x ∧ (∃ z33 : Int, r = some (0, z33) ∧ (hi z33 ∧ (z33 = 0 → hi v2 ∧ (v2 = 0 → 0 ≤ (112 + v1) ∧ (112 + v1) < 361 ∧ (Q (some (0, (ψ33 194 ((112 + v1).toNat)) - 1)) ψ33 x)) ∧ (v2 = 1 → 0 ≤ (118 + v1) ∧ (118 + v1) < 361 ∧ (Q (some (0, ψ33 194 ((118 + v1).toNat))) ψ33 x)) ∧ (v2 = 2 → hw sc (d + 1) 204 0 [(0, (2, 192)), (1, (0, v1))] [] ψ33 x (fun r ψ40 y40 => y40 = x ∧ ψ33 = ψ40 ∧ (∃ z40 : Int, r = some (0, z40) ∧ (Q (some (0, z40)) ψ33 x)))) ∧ (v2 = 3 → 0 ≤ (166 + v1) ∧ (166 + v1) < 361 ∧ (Q (some (0, ψ33 194 ((166 + v1).toNat))) ψ33 x)) ∧ ((v2 < 0 ∨ 4 ≤ v2) → hw sc (d + 1) 205 0 [(0, (2, 192)), (1, (0, v1))] [] ψ33 x (fun r ψ44 y44 => y44 = x ∧ ψ33 = ψ44 ∧ (∃ z44 : Int, r = some (0, z44) ∧ (Q (some (0, z44)) ψ33 x))))) ∧ (¬ z33 = 0 → Q (some (0, 0)) ψ33 x))))))))))))) :
    hw sc (d + 2) 201 0 [(0, (2, 192)), (1, (0, v1)), (2, (0, v2))] [] φ x Q := by
  refine hw_ald (b := 0) (e := 0) (by decide +kernel) rfl (by decide) ?_
  refine hw_ald (b := 0) (e := 0) (by decide +kernel) rfl (by decide) ?_
  refine hw_ld (b := 1) (e := 0) (by decide +kernel) rfl ?_
  refine hr_call (a0 := 22) (b := 202) (e := 2) (nl := 2) (As := [(0, v1)]) (R := [(2, 192)]) 192 rfl (by decide +kernel) rfl rfl (Nat.le_of_ble_eq_true rfl) (Nat.le_of_ble_eq_true rfl) ?_
  refine hw_mono H ?_
  rintro r ψ1 y1 ⟨hyx, hψx, z1, hr, H⟩
  subst hyx
  subst hψx
  subst hr
  refine ⟨hne0, ?_⟩
  show hw sc (d + 2) 201 6 [(0, (2, 192)), (1, (0, v1)), (2, (0, v2))] [(0, z1), (2, 192)] φ y1 Q
  obtain ⟨hz2, ht2, hf2⟩ := H
  refine hw_if (a0 := 0) (b := 0) (e := 18) (by decide +kernel) hz2 (fun q => ?_) (fun q => ?_)
  · have H := ht2 q
    refine hw_k (c := 1) (b := 0) (e := 1) (by decide +kernel) ?_
    refine hw_goto (a0 := 0) (b := 0) (e := 23) (by decide +kernel) ?_
    refine hr_call (a0 := 22) (b := 203) (e := 2) (nl := 2) (As := [(0, 1)]) (R := []) 192 rfl (by decide +kernel) rfl rfl (Nat.le_of_ble_eq_true rfl) (Nat.le_of_ble_eq_true rfl) ?_
    refine hw_mono H ?_
    rintro r ψ3 y3 ⟨hyx, z3, hr, H⟩
    subst hyx
    subst hr
    refine ⟨hne0, ?_⟩
    show hw sc (d + 2) 201 26 [(0, (2, 192)), (1, (0, v1)), (2, (0, v2))] [(0, z3)] ψ3 y3 Q
    obtain ⟨hz4, ht4, hf4⟩ := H
    refine hw_if (a0 := 0) (b := 0) (e := 31) (by decide +kernel) hz4 (fun q => ?_) (fun q => ?_)
    · have H := ht4 q
      refine hw_ld (b := 2) (e := 0) (by decide +kernel) rfl ?_
      obtain ⟨hz5, H⟩ := H
      refine hr_tsw (T := [64, 76, 86, 92]) (lo := 0) (nn := 4) (b := 103) (e := 9) (by decide +kernel) rfl hz5 ?_ ?_
      · intro q
        have H := H.2.2.2.2 q
        refine hw_ald (b := 0) (e := 0) (by decide +kernel) rfl (by decide) ?_
        refine hw_ld (b := 1) (e := 0) (by decide +kernel) rfl ?_
        refine hr_call (a0 := 22) (b := 205) (e := 2) (nl := 4) (As := [(0, v1)]) (R := []) 192 rfl (by decide +kernel) rfl rfl (Nat.le_of_ble_eq_true rfl) (Nat.le_of_ble_eq_true rfl) ?_
        refine hw_mono H ?_
        rintro r ψ14 y14 ⟨hyx, hψx, z14, hr, H⟩
        subst hyx
        subst hψx
        subst hr
        refine ⟨hne0, ?_⟩
        show hw sc (d + 2) 201 108 [(0, (2, 192)), (1, (0, v1)), (2, (0, v2))] [(0, z14)] ψ3 y14 Q
        exact hw_ret (a0 := 0) (e := 0) (by decide +kernel) (Or.inl rfl) H
      · intro kq tq htq hzq
        match kq, htq, hzq with
        | 0, htq, hzq =>
          cases htq
          have H := H.1 (by omega)
          refine hw_ald (b := 0) (e := 0) (by decide +kernel) rfl (by decide) ?_
          refine hr_gr (w := 194) (b := 12) (e := 6) 192 rfl (by decide +kernel) ?_
          refine hw_k (c := 112) (b := 1) (e := 2) (by decide +kernel) ?_
          refine hw_ld (b := 1) (e := 0) (by decide +kernel) rfl ?_
          refine hw_bin (w := 112 + v1) (a0 := 0) (b := 0) (e := 0) (by decide +kernel) rfl ?_
          obtain ⟨hl6, hu6, H⟩ := H
          refine hr_al (b := 0) (a0 := 0) (e := 0) (n := 361) (w := ψ3 194 ((112 + v1).toNat)) 194 rfl (by decide +kernel) (by decide) hl6 hu6 rfl ?_
          refine hw_k (c := 1) (b := 0) (e := 1) (by decide +kernel) ?_
          refine hw_bin (w := (ψ3 194 ((112 + v1).toNat)) - 1) (a0 := 0) (b := 1) (e := 0) (by decide +kernel) rfl ?_
          exact hw_ret (a0 := 0) (e := 0) (by decide +kernel) (Or.inl rfl) H
        | 1, htq, hzq =>
          cases htq
          have H := H.2.1 (by omega)
          refine hw_ald (b := 0) (e := 0) (by decide +kernel) rfl (by decide) ?_
          refine hr_gr (w := 194) (b := 12) (e := 6) 192 rfl (by decide +kernel) ?_
          refine hw_k (c := 118) (b := 1) (e := 2) (by decide +kernel) ?_
          refine hw_ld (b := 1) (e := 0) (by decide +kernel) rfl ?_
          refine hw_bin (w := 118 + v1) (a0 := 0) (b := 0) (e := 0) (by decide +kernel) rfl ?_
          obtain ⟨hl8, hu8, H⟩ := H
          refine hr_al (b := 0) (a0 := 0) (e := 0) (n := 361) (w := ψ3 194 ((118 + v1).toNat)) 194 rfl (by decide +kernel) (by decide) hl8 hu8 rfl ?_
          exact hw_ret (a0 := 0) (e := 0) (by decide +kernel) (Or.inl rfl) H
        | 2, htq, hzq =>
          cases htq
          have H := H.2.2.1 (by omega)
          refine hw_ald (b := 0) (e := 0) (by decide +kernel) rfl (by decide) ?_
          refine hw_ld (b := 1) (e := 0) (by decide +kernel) rfl ?_
          refine hr_call (a0 := 22) (b := 204) (e := 2) (nl := 2) (As := [(0, v1)]) (R := []) 192 rfl (by decide +kernel) rfl rfl (Nat.le_of_ble_eq_true rfl) (Nat.le_of_ble_eq_true rfl) ?_
          refine hw_mono H ?_
          rintro r ψ10 y10 ⟨hyx, hψx, z10, hr, H⟩
          subst hyx
          subst hψx
          subst hr
          refine ⟨hne0, ?_⟩
          show hw sc (d + 2) 201 91 [(0, (2, 192)), (1, (0, v1)), (2, (0, v2))] [(0, z10)] ψ3 y10 Q
          exact hw_ret (a0 := 0) (e := 0) (by decide +kernel) (Or.inl rfl) H
        | 3, htq, hzq =>
          cases htq
          have H := H.2.2.2.1 (by omega)
          refine hw_ald (b := 0) (e := 0) (by decide +kernel) rfl (by decide) ?_
          refine hr_gr (w := 194) (b := 12) (e := 6) 192 rfl (by decide +kernel) ?_
          refine hw_k (c := 166) (b := 2) (e := 3) (by decide +kernel) ?_
          refine hw_ld (b := 1) (e := 0) (by decide +kernel) rfl ?_
          refine hw_bin (w := 166 + v1) (a0 := 0) (b := 0) (e := 0) (by decide +kernel) rfl ?_
          obtain ⟨hl12, hu12, H⟩ := H
          refine hr_al (b := 0) (a0 := 0) (e := 0) (n := 361) (w := ψ3 194 ((166 + v1).toNat)) 194 rfl (by decide +kernel) (by decide) hl12 hu12 rfl ?_
          exact hw_ret (a0 := 0) (e := 0) (by decide +kernel) (Or.inl rfl) H
        | kq + 4, htq, _ => cases htq
    · have H := hf4 q
      refine hw_k (c := 0) (b := 0) (e := 1) (by decide +kernel) ?_
      exact hw_ret (a0 := 0) (e := 0) (by decide +kernel) (Or.inl rfl) H
  · have H := hf2 q
    refine hw_ld (b := 2) (e := 0) (by decide +kernel) rfl ?_
    refine hw_k (c := 0) (b := 0) (e := 1) (by decide +kernel) ?_
    refine hw_k (c := 4) (b := 0) (e := 1) (by decide +kernel) ?_
    refine hr_calls (b := 188) (e := 3) (nl := 3) (As := [(0, v2), (0, 0), (0, 4)]) (R := [(2, 192)]) (by decide +kernel) rfl rfl (Nat.le_of_ble_eq_true rfl) (Nat.le_of_ble_eq_true rfl) ?_
    refine hw_mono H ?_
    rintro r ψ17 y17 ⟨hyx, hψx, z17, hr, H⟩
    subst hyx
    subst hψx
    subst hr
    refine ⟨hne0, ?_⟩
    show hw sc (d + 2) 201 15 [(0, (2, 192)), (1, (0, v1)), (2, (0, v2))] [(0, z17), (2, 192)] φ y17 Q
    obtain ⟨hz18, ht18, hf18⟩ := H
    refine hw_if (a0 := 0) (b := 1) (e := 22) (by decide +kernel) hz18 (fun q => ?_) (fun q => ?_)
    · have H := ht18 q
      refine hw_k (c := 0) (b := 0) (e := 1) (by decide +kernel) ?_
      refine hr_call (a0 := 22) (b := 203) (e := 2) (nl := 2) (As := [(0, 0)]) (R := []) 192 rfl (by decide +kernel) rfl rfl (Nat.le_of_ble_eq_true rfl) (Nat.le_of_ble_eq_true rfl) ?_
      refine hw_mono H ?_
      rintro r ψ19 y19 ⟨hyx, z19, hr, H⟩
      subst hyx
      subst hr
      refine ⟨hne0, ?_⟩
      show hw sc (d + 2) 201 26 [(0, (2, 192)), (1, (0, v1)), (2, (0, v2))] [(0, z19)] ψ19 y19 Q
      obtain ⟨hz20, ht20, hf20⟩ := H
      refine hw_if (a0 := 0) (b := 0) (e := 31) (by decide +kernel) hz20 (fun q => ?_) (fun q => ?_)
      · have H := ht20 q
        refine hw_ld (b := 2) (e := 0) (by decide +kernel) rfl ?_
        obtain ⟨hz21, H⟩ := H
        refine hr_tsw (T := [64, 76, 86, 92]) (lo := 0) (nn := 4) (b := 103) (e := 9) (by decide +kernel) rfl hz21 ?_ ?_
        · intro q
          have H := H.2.2.2.2 q
          refine hw_ald (b := 0) (e := 0) (by decide +kernel) rfl (by decide) ?_
          refine hw_ld (b := 1) (e := 0) (by decide +kernel) rfl ?_
          refine hr_call (a0 := 22) (b := 205) (e := 2) (nl := 4) (As := [(0, v1)]) (R := []) 192 rfl (by decide +kernel) rfl rfl (Nat.le_of_ble_eq_true rfl) (Nat.le_of_ble_eq_true rfl) ?_
          refine hw_mono H ?_
          rintro r ψ30 y30 ⟨hyx, hψx, z30, hr, H⟩
          subst hyx
          subst hψx
          subst hr
          refine ⟨hne0, ?_⟩
          show hw sc (d + 2) 201 108 [(0, (2, 192)), (1, (0, v1)), (2, (0, v2))] [(0, z30)] ψ19 y30 Q
          exact hw_ret (a0 := 0) (e := 0) (by decide +kernel) (Or.inl rfl) H
        · intro kq tq htq hzq
          match kq, htq, hzq with
          | 0, htq, hzq =>
            cases htq
            have H := H.1 (by omega)
            refine hw_ald (b := 0) (e := 0) (by decide +kernel) rfl (by decide) ?_
            refine hr_gr (w := 194) (b := 12) (e := 6) 192 rfl (by decide +kernel) ?_
            refine hw_k (c := 112) (b := 1) (e := 2) (by decide +kernel) ?_
            refine hw_ld (b := 1) (e := 0) (by decide +kernel) rfl ?_
            refine hw_bin (w := 112 + v1) (a0 := 0) (b := 0) (e := 0) (by decide +kernel) rfl ?_
            obtain ⟨hl22, hu22, H⟩ := H
            refine hr_al (b := 0) (a0 := 0) (e := 0) (n := 361) (w := ψ19 194 ((112 + v1).toNat)) 194 rfl (by decide +kernel) (by decide) hl22 hu22 rfl ?_
            refine hw_k (c := 1) (b := 0) (e := 1) (by decide +kernel) ?_
            refine hw_bin (w := (ψ19 194 ((112 + v1).toNat)) - 1) (a0 := 0) (b := 1) (e := 0) (by decide +kernel) rfl ?_
            exact hw_ret (a0 := 0) (e := 0) (by decide +kernel) (Or.inl rfl) H
          | 1, htq, hzq =>
            cases htq
            have H := H.2.1 (by omega)
            refine hw_ald (b := 0) (e := 0) (by decide +kernel) rfl (by decide) ?_
            refine hr_gr (w := 194) (b := 12) (e := 6) 192 rfl (by decide +kernel) ?_
            refine hw_k (c := 118) (b := 1) (e := 2) (by decide +kernel) ?_
            refine hw_ld (b := 1) (e := 0) (by decide +kernel) rfl ?_
            refine hw_bin (w := 118 + v1) (a0 := 0) (b := 0) (e := 0) (by decide +kernel) rfl ?_
            obtain ⟨hl24, hu24, H⟩ := H
            refine hr_al (b := 0) (a0 := 0) (e := 0) (n := 361) (w := ψ19 194 ((118 + v1).toNat)) 194 rfl (by decide +kernel) (by decide) hl24 hu24 rfl ?_
            exact hw_ret (a0 := 0) (e := 0) (by decide +kernel) (Or.inl rfl) H
          | 2, htq, hzq =>
            cases htq
            have H := H.2.2.1 (by omega)
            refine hw_ald (b := 0) (e := 0) (by decide +kernel) rfl (by decide) ?_
            refine hw_ld (b := 1) (e := 0) (by decide +kernel) rfl ?_
            refine hr_call (a0 := 22) (b := 204) (e := 2) (nl := 2) (As := [(0, v1)]) (R := []) 192 rfl (by decide +kernel) rfl rfl (Nat.le_of_ble_eq_true rfl) (Nat.le_of_ble_eq_true rfl) ?_
            refine hw_mono H ?_
            rintro r ψ26 y26 ⟨hyx, hψx, z26, hr, H⟩
            subst hyx
            subst hψx
            subst hr
            refine ⟨hne0, ?_⟩
            show hw sc (d + 2) 201 91 [(0, (2, 192)), (1, (0, v1)), (2, (0, v2))] [(0, z26)] ψ19 y26 Q
            exact hw_ret (a0 := 0) (e := 0) (by decide +kernel) (Or.inl rfl) H
          | 3, htq, hzq =>
            cases htq
            have H := H.2.2.2.1 (by omega)
            refine hw_ald (b := 0) (e := 0) (by decide +kernel) rfl (by decide) ?_
            refine hr_gr (w := 194) (b := 12) (e := 6) 192 rfl (by decide +kernel) ?_
            refine hw_k (c := 166) (b := 2) (e := 3) (by decide +kernel) ?_
            refine hw_ld (b := 1) (e := 0) (by decide +kernel) rfl ?_
            refine hw_bin (w := 166 + v1) (a0 := 0) (b := 0) (e := 0) (by decide +kernel) rfl ?_
            obtain ⟨hl28, hu28, H⟩ := H
            refine hr_al (b := 0) (a0 := 0) (e := 0) (n := 361) (w := ψ19 194 ((166 + v1).toNat)) 194 rfl (by decide +kernel) (by decide) hl28 hu28 rfl ?_
            exact hw_ret (a0 := 0) (e := 0) (by decide +kernel) (Or.inl rfl) H
          | kq + 4, htq, _ => cases htq
      · have H := hf20 q
        refine hw_k (c := 0) (b := 0) (e := 1) (by decide +kernel) ?_
        exact hw_ret (a0 := 0) (e := 0) (by decide +kernel) (Or.inl rfl) H
    · have H := hf18 q
      refine hw_k (c := 1) (b := 0) (e := 1) (by decide +kernel) ?_
      refine hw_goto (a0 := 0) (b := 0) (e := 23) (by decide +kernel) ?_
      refine hr_call (a0 := 22) (b := 203) (e := 2) (nl := 2) (As := [(0, 1)]) (R := []) 192 rfl (by decide +kernel) rfl rfl (Nat.le_of_ble_eq_true rfl) (Nat.le_of_ble_eq_true rfl) ?_
      refine hw_mono H ?_
      rintro r ψ33 y33 ⟨hyx, z33, hr, H⟩
      subst hyx
      subst hr
      refine ⟨hne0, ?_⟩
      show hw sc (d + 2) 201 26 [(0, (2, 192)), (1, (0, v1)), (2, (0, v2))] [(0, z33)] ψ33 y33 Q
      obtain ⟨hz34, ht34, hf34⟩ := H
      refine hw_if (a0 := 0) (b := 0) (e := 31) (by decide +kernel) hz34 (fun q => ?_) (fun q => ?_)
      · have H := ht34 q
        refine hw_ld (b := 2) (e := 0) (by decide +kernel) rfl ?_
        obtain ⟨hz35, H⟩ := H
        refine hr_tsw (T := [64, 76, 86, 92]) (lo := 0) (nn := 4) (b := 103) (e := 9) (by decide +kernel) rfl hz35 ?_ ?_
        · intro q
          have H := H.2.2.2.2 q
          refine hw_ald (b := 0) (e := 0) (by decide +kernel) rfl (by decide) ?_
          refine hw_ld (b := 1) (e := 0) (by decide +kernel) rfl ?_
          refine hr_call (a0 := 22) (b := 205) (e := 2) (nl := 4) (As := [(0, v1)]) (R := []) 192 rfl (by decide +kernel) rfl rfl (Nat.le_of_ble_eq_true rfl) (Nat.le_of_ble_eq_true rfl) ?_
          refine hw_mono H ?_
          rintro r ψ44 y44 ⟨hyx, hψx, z44, hr, H⟩
          subst hyx
          subst hψx
          subst hr
          refine ⟨hne0, ?_⟩
          show hw sc (d + 2) 201 108 [(0, (2, 192)), (1, (0, v1)), (2, (0, v2))] [(0, z44)] ψ33 y44 Q
          exact hw_ret (a0 := 0) (e := 0) (by decide +kernel) (Or.inl rfl) H
        · intro kq tq htq hzq
          match kq, htq, hzq with
          | 0, htq, hzq =>
            cases htq
            have H := H.1 (by omega)
            refine hw_ald (b := 0) (e := 0) (by decide +kernel) rfl (by decide) ?_
            refine hr_gr (w := 194) (b := 12) (e := 6) 192 rfl (by decide +kernel) ?_
            refine hw_k (c := 112) (b := 1) (e := 2) (by decide +kernel) ?_
            refine hw_ld (b := 1) (e := 0) (by decide +kernel) rfl ?_
            refine hw_bin (w := 112 + v1) (a0 := 0) (b := 0) (e := 0) (by decide +kernel) rfl ?_
            obtain ⟨hl36, hu36, H⟩ := H
            refine hr_al (b := 0) (a0 := 0) (e := 0) (n := 361) (w := ψ33 194 ((112 + v1).toNat)) 194 rfl (by decide +kernel) (by decide) hl36 hu36 rfl ?_
            refine hw_k (c := 1) (b := 0) (e := 1) (by decide +kernel) ?_
            refine hw_bin (w := (ψ33 194 ((112 + v1).toNat)) - 1) (a0 := 0) (b := 1) (e := 0) (by decide +kernel) rfl ?_
            exact hw_ret (a0 := 0) (e := 0) (by decide +kernel) (Or.inl rfl) H
          | 1, htq, hzq =>
            cases htq
            have H := H.2.1 (by omega)
            refine hw_ald (b := 0) (e := 0) (by decide +kernel) rfl (by decide) ?_
            refine hr_gr (w := 194) (b := 12) (e := 6) 192 rfl (by decide +kernel) ?_
            refine hw_k (c := 118) (b := 1) (e := 2) (by decide +kernel) ?_
            refine hw_ld (b := 1) (e := 0) (by decide +kernel) rfl ?_
            refine hw_bin (w := 118 + v1) (a0 := 0) (b := 0) (e := 0) (by decide +kernel) rfl ?_
            obtain ⟨hl38, hu38, H⟩ := H
            refine hr_al (b := 0) (a0 := 0) (e := 0) (n := 361) (w := ψ33 194 ((118 + v1).toNat)) 194 rfl (by decide +kernel) (by decide) hl38 hu38 rfl ?_
            exact hw_ret (a0 := 0) (e := 0) (by decide +kernel) (Or.inl rfl) H
          | 2, htq, hzq =>
            cases htq
            have H := H.2.2.1 (by omega)
            refine hw_ald (b := 0) (e := 0) (by decide +kernel) rfl (by decide) ?_
            refine hw_ld (b := 1) (e := 0) (by decide +kernel) rfl ?_
            refine hr_call (a0 := 22) (b := 204) (e := 2) (nl := 2) (As := [(0, v1)]) (R := []) 192 rfl (by decide +kernel) rfl rfl (Nat.le_of_ble_eq_true rfl) (Nat.le_of_ble_eq_true rfl) ?_
            refine hw_mono H ?_
            rintro r ψ40 y40 ⟨hyx, hψx, z40, hr, H⟩
            subst hyx
            subst hψx
            subst hr
            refine ⟨hne0, ?_⟩
            show hw sc (d + 2) 201 91 [(0, (2, 192)), (1, (0, v1)), (2, (0, v2))] [(0, z40)] ψ33 y40 Q
            exact hw_ret (a0 := 0) (e := 0) (by decide +kernel) (Or.inl rfl) H
          | 3, htq, hzq =>
            cases htq
            have H := H.2.2.2.1 (by omega)
            refine hw_ald (b := 0) (e := 0) (by decide +kernel) rfl (by decide) ?_
            refine hr_gr (w := 194) (b := 12) (e := 6) 192 rfl (by decide +kernel) ?_
            refine hw_k (c := 166) (b := 2) (e := 3) (by decide +kernel) ?_
            refine hw_ld (b := 1) (e := 0) (by decide +kernel) rfl ?_
            refine hw_bin (w := 166 + v1) (a0 := 0) (b := 0) (e := 0) (by decide +kernel) rfl ?_
            obtain ⟨hl42, hu42, H⟩ := H
            refine hr_al (b := 0) (a0 := 0) (e := 0) (n := 361) (w := ψ33 194 ((166 + v1).toNat)) 194 rfl (by decide +kernel) (by decide) hl42 hu42 rfl ?_
            exact hw_ret (a0 := 0) (e := 0) (by decide +kernel) (Or.inl rfl) H
          | kq + 4, htq, _ => cases htq
      · have H := hf34 q
        refine hw_k (c := 0) (b := 0) (e := 1) (by decide +kernel) ?_
        exact hw_ret (a0 := 0) (e := 0) (by decide +kernel) (Or.inl rfl) H
theorem sf_201_192 {sc : List Int} {d : Nat} {φ : hf_F} {x : Nat} {Q : Option jm_V → hf_F → Nat → Prop} {v1 v2 : Int} (hI : Inv φ) (h1a : (-2147483648 : Int) ≤ v1) (h1b : v1 ≤ 2147483647) (h2a : (-2147483648 : Int) ≤ v2) (h2b : v2 ≤ 2147483647) (hQ : ∀ (r : Int) (ψ : hf_F), Inv ψ → Fr [193000] φ ψ → True → F_RideLawsModel_rider_192 φ v1 v2 = (r, ψ) → Q (some (0, r)) ψ x) : hw sc (d + 2) 201 0 [(0, (2, 192)), (1, (0, v1)), (2, (0, v2))] [] φ x Q := by
  apply sf_201_192_v
  have e0 : F_RideLawsModel_rider_192 φ v1 v2 = _ := rfl
  refine sf_202_192 (φ := φ) hI (by omega) (by omega) (fun z1 hp1 hE1 => ⟨rfl, rfl, z1, rfl, ?_⟩)
  have e1 := e0.trans (bnp_e hE1)
  have f1 := iv_at (a := 194) (k := 3) (lo := 0) (u := 6) hI (by decide +kernel)
  refine ⟨by unfold hi; omega, fun q2 => ?_, fun q2 => ?_⟩
  · skip
    have e2a := e1.trans (if_pos q2)
    refine sf_203_192 (φ := φ) hI (by omega) (by omega) (fun z3 ψ3 hI3 hF3 hp3 hE3 => ⟨rfl, z3, rfl, ?_⟩)
    have hG3 : Fr [193000] φ ψ3 := fr_tr (fr_rf) hF3 (by decide)
    have e3 := e2a.trans (bnd_e hE3)
    refine ⟨by unfold hi; omega, fun q4 => ?_, fun q4 => ?_⟩
    · skip
      have e4a := e3.trans (if_pos q4)
      refine ⟨by unfold hi; omega, fun q5 => ?_, fun q5 => ?_, fun q5 => ?_, fun q5 => ?_, fun q5 => ?_⟩
      · skip
        have e5_0 := (e4a).trans (if_pos q5)
        refine ⟨by omega, by omega, ?_⟩
        have f2 := iv_ar (a := 194) (s := 112) (t := 118) (lo := 0) (u := 8) (z := 112 + v1) hI3 (by decide +kernel) (by omega) (by omega)
        have f3 : ψ3 194 ((112 + v1).toNat) = φ 194 ((112 + v1).toNat) := (fr_at hF3 194 (by decide) ((112 + v1).toNat))
        have f4 := iv_ar (a := 194) (s := 112) (t := 118) (lo := 0) (u := 8) (z := 112 + v1) hI (by decide +kernel) (by omega) (by omega)
        exact hQ ((ψ3 194 ((112 + v1).toNat)) - 1) ψ3 hI3 hG3 trivial e5_0
      · skip
        have e5_1 := ((e4a).trans (if_neg (by omega))).trans (if_pos q5)
        refine ⟨by omega, by omega, ?_⟩
        have f5 := iv_ar (a := 194) (s := 118) (t := 124) (lo := 0) (u := 6) (z := 118 + v1) hI3 (by decide +kernel) (by omega) (by omega)
        have f6 : ψ3 194 ((118 + v1).toNat) = φ 194 ((118 + v1).toNat) := (fr_at hF3 194 (by decide) ((118 + v1).toNat))
        have f7 := iv_ar (a := 194) (s := 118) (t := 124) (lo := 0) (u := 6) (z := 118 + v1) hI (by decide +kernel) (by omega) (by omega)
        exact hQ (ψ3 194 ((118 + v1).toNat)) ψ3 hI3 hG3 trivial e5_1
      · skip
        have e5_2 := (((e4a).trans (if_neg (by omega))).trans (if_neg (by omega))).trans (if_pos q5)
        refine sf_204_192 (φ := ψ3) hI3 (by omega) (by omega) (fun z10 hp10 hE10 => ⟨rfl, rfl, z10, rfl, ?_⟩)
        have e10 := e5_2.trans (bnp_e hE10)
        exact hQ z10 ψ3 hI3 hG3 trivial e10
      · skip
        have e5_3 := ((((e4a).trans (if_neg (by omega))).trans (if_neg (by omega))).trans (if_neg (by omega))).trans (if_pos q5)
        refine ⟨by omega, by omega, ?_⟩
        have f8 : ψ3 194 ((166 + v1).toNat) = φ 194 ((166 + v1).toNat) := (fr_at hF3 194 (by decide) ((166 + v1).toNat))
        exact hQ (ψ3 194 ((166 + v1).toNat)) ψ3 hI3 hG3 trivial e5_3
      · skip
        have e5_4 := ((((e4a).trans (if_neg (by omega))).trans (if_neg (by omega))).trans (if_neg (by omega))).trans (if_neg (by omega))
        refine sf_205_192 (φ := ψ3) hI3 (by omega) (by omega) (fun z14 hp14 hE14 => ⟨rfl, rfl, z14, rfl, ?_⟩)
        have e14 := e5_4.trans (bnp_e hE14)
        exact hQ z14 ψ3 hI3 hG3 trivial e14
    · skip
      have e4b := e3.trans (if_neg q4)
      exact hQ 0 ψ3 hI3 hG3 trivial e4b
  · skip
    have e2b := e1.trans (if_neg q2)
    refine sf_188 (φ := φ) hI (by omega) (by omega) (by omega) (by omega) (by omega) (by omega) (fun z17 hp17 hE17 => ⟨rfl, rfl, z17, rfl, ?_⟩)
    have e17 := e2b.trans (bnp_e hE17)
    refine ⟨by unfold hi; omega, fun q18 => ?_, fun q18 => ?_⟩
    · skip
      have e18a := e17.trans (if_pos q18)
      refine sf_203_192 (φ := φ) hI (by omega) (by omega) (fun z19 ψ19 hI19 hF19 hp19 hE19 => ⟨rfl, z19, rfl, ?_⟩)
      have hG19 : Fr [193000] φ ψ19 := fr_tr (fr_rf) hF19 (by decide)
      have e19 := e18a.trans (bnd_e hE19)
      refine ⟨by unfold hi; omega, fun q20 => ?_, fun q20 => ?_⟩
      · skip
        have e20a := e19.trans (if_pos q20)
        refine ⟨by unfold hi; omega, fun q21 => ?_, fun q21 => ?_, fun q21 => ?_, fun q21 => ?_, fun q21 => ?_⟩
        · skip
          have e21_0 := (e20a).trans (if_pos q21)
          refine ⟨by omega, by omega, ?_⟩
          have f9 := iv_ar (a := 194) (s := 112) (t := 118) (lo := 0) (u := 8) (z := 112 + v1) hI19 (by decide +kernel) (by omega) (by omega)
          have f10 : ψ19 194 ((112 + v1).toNat) = φ 194 ((112 + v1).toNat) := (fr_at hF19 194 (by decide) ((112 + v1).toNat))
          have f11 := iv_ar (a := 194) (s := 112) (t := 118) (lo := 0) (u := 8) (z := 112 + v1) hI (by decide +kernel) (by omega) (by omega)
          exact hQ ((ψ19 194 ((112 + v1).toNat)) - 1) ψ19 hI19 hG19 trivial e21_0
        · skip
          have e21_1 := ((e20a).trans (if_neg (by omega))).trans (if_pos q21)
          refine ⟨by omega, by omega, ?_⟩
          have f12 := iv_ar (a := 194) (s := 118) (t := 124) (lo := 0) (u := 6) (z := 118 + v1) hI19 (by decide +kernel) (by omega) (by omega)
          have f13 : ψ19 194 ((118 + v1).toNat) = φ 194 ((118 + v1).toNat) := (fr_at hF19 194 (by decide) ((118 + v1).toNat))
          have f14 := iv_ar (a := 194) (s := 118) (t := 124) (lo := 0) (u := 6) (z := 118 + v1) hI (by decide +kernel) (by omega) (by omega)
          exact hQ (ψ19 194 ((118 + v1).toNat)) ψ19 hI19 hG19 trivial e21_1
        · skip
          have e21_2 := (((e20a).trans (if_neg (by omega))).trans (if_neg (by omega))).trans (if_pos q21)
          refine sf_204_192 (φ := ψ19) hI19 (by omega) (by omega) (fun z26 hp26 hE26 => ⟨rfl, rfl, z26, rfl, ?_⟩)
          have e26 := e21_2.trans (bnp_e hE26)
          exact hQ z26 ψ19 hI19 hG19 trivial e26
        · skip
          have e21_3 := ((((e20a).trans (if_neg (by omega))).trans (if_neg (by omega))).trans (if_neg (by omega))).trans (if_pos q21)
          refine ⟨by omega, by omega, ?_⟩
          have f15 : ψ19 194 ((166 + v1).toNat) = φ 194 ((166 + v1).toNat) := (fr_at hF19 194 (by decide) ((166 + v1).toNat))
          exact hQ (ψ19 194 ((166 + v1).toNat)) ψ19 hI19 hG19 trivial e21_3
        · skip
          have e21_4 := ((((e20a).trans (if_neg (by omega))).trans (if_neg (by omega))).trans (if_neg (by omega))).trans (if_neg (by omega))
          refine sf_205_192 (φ := ψ19) hI19 (by omega) (by omega) (fun z30 hp30 hE30 => ⟨rfl, rfl, z30, rfl, ?_⟩)
          have e30 := e21_4.trans (bnp_e hE30)
          exact hQ z30 ψ19 hI19 hG19 trivial e30
      · skip
        have e20b := e19.trans (if_neg q20)
        exact hQ 0 ψ19 hI19 hG19 trivial e20b
    · skip
      have e18b := e17.trans (if_neg q18)
      refine sf_203_192 (φ := φ) hI (by omega) (by omega) (fun z33 ψ33 hI33 hF33 hp33 hE33 => ⟨rfl, z33, rfl, ?_⟩)
      have hG33 : Fr [193000] φ ψ33 := fr_tr (fr_rf) hF33 (by decide)
      have e33 := e18b.trans (bnd_e hE33)
      refine ⟨by unfold hi; omega, fun q34 => ?_, fun q34 => ?_⟩
      · skip
        have e34a := e33.trans (if_pos q34)
        refine ⟨by unfold hi; omega, fun q35 => ?_, fun q35 => ?_, fun q35 => ?_, fun q35 => ?_, fun q35 => ?_⟩
        · skip
          have e35_0 := (e34a).trans (if_pos q35)
          refine ⟨by omega, by omega, ?_⟩
          have f16 := iv_ar (a := 194) (s := 112) (t := 118) (lo := 0) (u := 8) (z := 112 + v1) hI33 (by decide +kernel) (by omega) (by omega)
          have f17 : ψ33 194 ((112 + v1).toNat) = φ 194 ((112 + v1).toNat) := (fr_at hF33 194 (by decide) ((112 + v1).toNat))
          have f18 := iv_ar (a := 194) (s := 112) (t := 118) (lo := 0) (u := 8) (z := 112 + v1) hI (by decide +kernel) (by omega) (by omega)
          exact hQ ((ψ33 194 ((112 + v1).toNat)) - 1) ψ33 hI33 hG33 trivial e35_0
        · skip
          have e35_1 := ((e34a).trans (if_neg (by omega))).trans (if_pos q35)
          refine ⟨by omega, by omega, ?_⟩
          have f19 := iv_ar (a := 194) (s := 118) (t := 124) (lo := 0) (u := 6) (z := 118 + v1) hI33 (by decide +kernel) (by omega) (by omega)
          have f20 : ψ33 194 ((118 + v1).toNat) = φ 194 ((118 + v1).toNat) := (fr_at hF33 194 (by decide) ((118 + v1).toNat))
          have f21 := iv_ar (a := 194) (s := 118) (t := 124) (lo := 0) (u := 6) (z := 118 + v1) hI (by decide +kernel) (by omega) (by omega)
          exact hQ (ψ33 194 ((118 + v1).toNat)) ψ33 hI33 hG33 trivial e35_1
        · skip
          have e35_2 := (((e34a).trans (if_neg (by omega))).trans (if_neg (by omega))).trans (if_pos q35)
          refine sf_204_192 (φ := ψ33) hI33 (by omega) (by omega) (fun z40 hp40 hE40 => ⟨rfl, rfl, z40, rfl, ?_⟩)
          have e40 := e35_2.trans (bnp_e hE40)
          exact hQ z40 ψ33 hI33 hG33 trivial e40
        · skip
          have e35_3 := ((((e34a).trans (if_neg (by omega))).trans (if_neg (by omega))).trans (if_neg (by omega))).trans (if_pos q35)
          refine ⟨by omega, by omega, ?_⟩
          have f22 : ψ33 194 ((166 + v1).toNat) = φ 194 ((166 + v1).toNat) := (fr_at hF33 194 (by decide) ((166 + v1).toNat))
          exact hQ (ψ33 194 ((166 + v1).toNat)) ψ33 hI33 hG33 trivial e35_3
        · skip
          have e35_4 := ((((e34a).trans (if_neg (by omega))).trans (if_neg (by omega))).trans (if_neg (by omega))).trans (if_neg (by omega))
          refine sf_205_192 (φ := ψ33) hI33 (by omega) (by omega) (fun z44 hp44 hE44 => ⟨rfl, rfl, z44, rfl, ?_⟩)
          have e44 := e35_4.trans (bnp_e hE44)
          exact hQ z44 ψ33 hI33 hG33 trivial e44
      · skip
        have e34b := e33.trans (if_neg q34)
        exact hQ 0 ψ33 hI33 hG33 trivial e34b
theorem sf_212_192_v12 {sc : List Int} {d : Nat} {φ : hf_F} {x : Nat} {Q : Option jm_V → hf_F → Nat → Prop} {L : jm_L} {l1 l2 l3 l4 : Int} (g0 : jm_get L 0 = some (2, 192)) (g1 : jm_get L 1 = some (0, l1)) (g2 : jm_get L 2 = some (0, l2)) (g3 : jm_get L 3 = some (0, l3)) (g4 : jm_get L 4 = some (0, l4))
    (H : hi l4 ∧ hi (φ 194 1) ∧ ((φ 194 1) ≤ l4 → hi l1 ∧ (l1 = 0 → Q (some (0, φ 194 99)) φ x) ∧ (l1 = 1 → Q (some (0, (φ 194 100) - 1)) φ x) ∧ (l1 = 2 → Q (some (0, (φ 194 101) - 1)) φ x) ∧ (l1 = 3 → Q (some (0, φ 194 102)) φ x) ∧ (l1 = 4 → hw sc d 213 0 [(0, (2, 192))] [] φ x (fun r ψ7 y7 => y7 = x ∧ φ = ψ7 ∧ (∃ z7 : Int, r = some (0, z7) ∧ (Q (some (0, z7)) φ x)))) ∧ (l1 = 5 → Q (some (0, l2)) φ x) ∧ (l1 = 6 → Q (some (0, l3)) φ x) ∧ (l1 = 7 → Q (some (0, φ 194 103)) φ x) ∧ ((l1 < 0 ∨ 8 ≤ l1) → Q (some (0, (-1 : Int))) φ x)) ∧ (¬ (φ 194 1) ≤ l4 → 0 ≤ (104 + l4) ∧ (104 + l4) < 361 ∧ (hi (φ 194 ((104 + l4).toNat)) ∧ (¬ (φ 194 ((104 + l4).toNat)) = 0 → hw sc d 209 0 [(0, (2, 192)), (1, (0, l4))] [] φ x (fun r ψ15 y15 => y15 = x ∧ φ = ψ15 ∧ (∃ z15 : Int, r = some (0, z15) ∧ (hi z15 ∧ (z15 < 0 → hw sc (d + 1) 212 12 (jm_st1 (jm_st1 (jm_st1 L 2 (0, hb_or l2 0)) 3 (0, hb_or l3 0)) 4 (0, l4 + 1)) [] φ x Q) ∧ (¬ z15 < 0 → hw sc (d + 1) 212 12 (jm_st1 (jm_st1 (jm_st1 L 2 (0, hb_or l2 0)) 3 (0, hb_or l3 (hb_shl 1 l4))) 4 (0, l4 + 1)) [] φ x Q))))) ∧ (¬ (¬ (φ 194 ((104 + l4).toNat)) = 0) → hw sc d 209 0 [(0, (2, 192)), (1, (0, l4))] [] φ x (fun r ψ17 y17 => y17 = x ∧ φ = ψ17 ∧ (∃ z17 : Int, r = some (0, z17) ∧ (hi z17 ∧ (z17 < 0 → hw sc (d + 1) 212 12 (jm_st1 (jm_st1 (jm_st1 L 2 (0, hb_or l2 (hb_shl 1 l4))) 3 (0, hb_or l3 0)) 4 (0, l4 + 1)) [] φ x Q) ∧ (¬ z17 < 0 → hw sc (d + 1) 212 12 (jm_st1 (jm_st1 (jm_st1 L 2 (0, hb_or l2 (hb_shl 1 l4))) 3 (0, hb_or l3 (hb_shl 1 l4))) 4 (0, l4 + 1)) [] φ x Q)))))))) :
    hw sc (d + 1) 212 12 L [] φ x Q := by
  refine hw_ld (b := 4) (e := 1) (by decide +kernel) g4 ?_
  refine hw_ald (b := 0) (e := 0) (by decide +kernel) g0 (by decide) ?_
  refine hr_gr (w := 194) (b := 12) (e := 6) 192 rfl (by decide +kernel) ?_
  refine hw_k (c := 1) (b := 0) (e := 1) (by decide +kernel) ?_
  refine hr_al (b := 0) (a0 := 0) (e := 0) (n := 361) (w := φ 194 1) 194 rfl (by decide +kernel) (by decide) (by decide) (by decide) rfl ?_
  obtain ⟨hz1, hy1, ht1, hf1⟩ := H
  refine hw_if2 (a0 := 0) (b := 3) (e := 73) (by decide +kernel) hz1 hy1 (fun q => ?_) (fun q => ?_)
  · have H := ht1 q
    refine hw_ld (b := 1) (e := 0) (by decide +kernel) g1 ?_
    obtain ⟨hz2, H⟩ := H
    refine hr_tsw (T := [120, 128, 138, 148, 156, 161, 163, 165]) (lo := 0) (nn := 8) (b := 173) (e := 11) (by decide +kernel) rfl hz2 ?_ ?_
    · intro q
      have H := H.2.2.2.2.2.2.2.2 q
      refine hw_k (c := (-1 : Int)) (b := 0) (e := 1) (by decide +kernel) ?_
      exact hw_ret (a0 := 0) (e := 0) (by decide +kernel) (Or.inl rfl) H
    · intro kq tq htq hzq
      match kq, htq, hzq with
      | 0, htq, hzq =>
        cases htq
        have H := H.1 (by omega)
        refine hw_ald (b := 0) (e := 0) (by decide +kernel) g0 (by decide) ?_
        refine hr_gr (w := 194) (b := 12) (e := 6) 192 rfl (by decide +kernel) ?_
        refine hw_k (c := 99) (b := 1) (e := 2) (by decide +kernel) ?_
        refine hr_al (b := 0) (a0 := 0) (e := 0) (n := 361) (w := φ 194 99) 194 rfl (by decide +kernel) (by decide) (by decide) (by decide) rfl ?_
        exact hw_ret (a0 := 0) (e := 0) (by decide +kernel) (Or.inl rfl) H
      | 1, htq, hzq =>
        cases htq
        have H := H.2.1 (by omega)
        refine hw_ald (b := 0) (e := 0) (by decide +kernel) g0 (by decide) ?_
        refine hr_gr (w := 194) (b := 12) (e := 6) 192 rfl (by decide +kernel) ?_
        refine hw_k (c := 100) (b := 1) (e := 2) (by decide +kernel) ?_
        refine hr_al (b := 0) (a0 := 0) (e := 0) (n := 361) (w := φ 194 100) 194 rfl (by decide +kernel) (by decide) (by decide) (by decide) rfl ?_
        refine hw_k (c := 1) (b := 0) (e := 1) (by decide +kernel) ?_
        refine hw_bin (w := (φ 194 100) - 1) (a0 := 0) (b := 1) (e := 0) (by decide +kernel) rfl ?_
        exact hw_ret (a0 := 0) (e := 0) (by decide +kernel) (Or.inl rfl) H
      | 2, htq, hzq =>
        cases htq
        have H := H.2.2.1 (by omega)
        refine hw_ald (b := 0) (e := 0) (by decide +kernel) g0 (by decide) ?_
        refine hr_gr (w := 194) (b := 12) (e := 6) 192 rfl (by decide +kernel) ?_
        refine hw_k (c := 101) (b := 1) (e := 2) (by decide +kernel) ?_
        refine hr_al (b := 0) (a0 := 0) (e := 0) (n := 361) (w := φ 194 101) 194 rfl (by decide +kernel) (by decide) (by decide) (by decide) rfl ?_
        refine hw_k (c := 1) (b := 0) (e := 1) (by decide +kernel) ?_
        refine hw_bin (w := (φ 194 101) - 1) (a0 := 0) (b := 1) (e := 0) (by decide +kernel) rfl ?_
        exact hw_ret (a0 := 0) (e := 0) (by decide +kernel) (Or.inl rfl) H
      | 3, htq, hzq =>
        cases htq
        have H := H.2.2.2.1 (by omega)
        refine hw_ald (b := 0) (e := 0) (by decide +kernel) g0 (by decide) ?_
        refine hr_gr (w := 194) (b := 12) (e := 6) 192 rfl (by decide +kernel) ?_
        refine hw_k (c := 102) (b := 1) (e := 2) (by decide +kernel) ?_
        refine hr_al (b := 0) (a0 := 0) (e := 0) (n := 361) (w := φ 194 102) 194 rfl (by decide +kernel) (by decide) (by decide) (by decide) rfl ?_
        exact hw_ret (a0 := 0) (e := 0) (by decide +kernel) (Or.inl rfl) H
      | 4, htq, hzq =>
        cases htq
        have H := H.2.2.2.2.1 (by omega)
        refine hw_ald (b := 0) (e := 0) (by decide +kernel) g0 (by decide) ?_
        refine hr_call (a0 := 22) (b := 213) (e := 1) (nl := 3) (As := []) (R := []) 192 rfl (by decide +kernel) rfl rfl (Nat.le_of_ble_eq_true rfl) (Nat.le_of_ble_eq_true rfl) ?_
        refine hw_mono H ?_
        rintro r ψ7 y7 ⟨hyx, hψx, z7, hr, H⟩
        subst hyx
        subst hψx
        subst hr
        refine ⟨hne0, ?_⟩
        show hw sc (d + 1) 212 160 L [(0, z7)] φ y7 Q
        exact hw_ret (a0 := 0) (e := 0) (by decide +kernel) (Or.inl rfl) H
      | 5, htq, hzq =>
        cases htq
        have H := H.2.2.2.2.2.1 (by omega)
        refine hw_ld (b := 2) (e := 0) (by decide +kernel) g2 ?_
        exact hw_ret (a0 := 0) (e := 0) (by decide +kernel) (Or.inl rfl) H
      | 6, htq, hzq =>
        cases htq
        have H := H.2.2.2.2.2.2.1 (by omega)
        refine hw_ld (b := 3) (e := 0) (by decide +kernel) g3 ?_
        exact hw_ret (a0 := 0) (e := 0) (by decide +kernel) (Or.inl rfl) H
      | 7, htq, hzq =>
        cases htq
        have H := H.2.2.2.2.2.2.2.1 (by omega)
        refine hw_ald (b := 0) (e := 0) (by decide +kernel) g0 (by decide) ?_
        refine hr_gr (w := 194) (b := 12) (e := 6) 192 rfl (by decide +kernel) ?_
        refine hw_k (c := 103) (b := 1) (e := 2) (by decide +kernel) ?_
        refine hr_al (b := 0) (a0 := 0) (e := 0) (n := 361) (w := φ 194 103) 194 rfl (by decide +kernel) (by decide) (by decide) (by decide) rfl ?_
        exact hw_ret (a0 := 0) (e := 0) (by decide +kernel) (Or.inl rfl) H
      | kq + 8, htq, _ => cases htq
  · have H := hf1 q
    refine hw_ld (b := 2) (e := 0) (by decide +kernel) g2 ?_
    refine hw_ald (b := 0) (e := 0) (by decide +kernel) g0 (by decide) ?_
    refine hr_gr (w := 194) (b := 12) (e := 6) 192 rfl (by decide +kernel) ?_
    refine hw_k (c := 104) (b := 1) (e := 2) (by decide +kernel) ?_
    refine hw_ld (b := 4) (e := 1) (by decide +kernel) g4 ?_
    refine hw_bin (w := 104 + l4) (a0 := 0) (b := 0) (e := 0) (by decide +kernel) rfl ?_
    obtain ⟨hl13, hu13, H⟩ := H
    refine hr_al (b := 0) (a0 := 0) (e := 0) (n := 361) (w := φ 194 ((104 + l4).toNat)) 194 rfl (by decide +kernel) (by decide) hl13 hu13 rfl ?_
    obtain ⟨hz14, ht14, hf14⟩ := H
    refine hw_if (a0 := 0) (b := 1) (e := 44) (by decide +kernel) hz14 (fun q => ?_) (fun q => ?_)
    · have H := ht14 q
      refine hw_k (c := 0) (b := 0) (e := 1) (by decide +kernel) ?_
      refine hw_bin (w := hb_or l2 0) (a0 := 0) (b := 4) (e := 0) (by decide +kernel) rfl ?_
      refine hw_st (L' := (jm_st1 L 2 (0, hb_or l2 0))) (b := 2) (e := 0) (by decide +kernel) rfl ?_
      refine hw_ld (b := 3) (e := 0) (by decide +kernel) (get_st1 g3 (by decide) (fun q => absurd q.1 (by decide))) ?_
      refine hw_ald (b := 0) (e := 0) (by decide +kernel) (get_st1 g0 (by decide) (fun q => absurd q.1 (by decide))) (by decide) ?_
      refine hw_ld (b := 4) (e := 1) (by decide +kernel) (get_st1 g4 (by decide) (fun q => absurd q.1 (by decide))) ?_
      refine hr_call (a0 := 22) (b := 209) (e := 2) (nl := 3) (As := [(0, l4)]) (R := [(0, l3)]) 192 rfl (by decide +kernel) rfl rfl (Nat.le_of_ble_eq_true rfl) (Nat.le_of_ble_eq_true rfl) ?_
      refine hw_mono H ?_
      rintro r ψ15 y15 ⟨hyx, hψx, z15, hr, H⟩
      subst hyx
      subst hψx
      subst hr
      refine ⟨hne0, ?_⟩
      show hw sc (d + 1) 212 54 (jm_st1 L 2 (0, hb_or l2 0)) [(0, z15), (0, l3)] φ y15 Q
      obtain ⟨hz16, ht16, hf16⟩ := H
      refine hw_if (a0 := 0) (b := 2) (e := 64) (by decide +kernel) hz16 (fun q => ?_) (fun q => ?_)
      · have H := ht16 q
        refine hw_k (c := 0) (b := 0) (e := 1) (by decide +kernel) ?_
        refine hw_bin (w := hb_or l3 0) (a0 := 0) (b := 4) (e := 0) (by decide +kernel) rfl ?_
        refine hw_st (L' := (jm_st1 (jm_st1 L 2 (0, hb_or l2 0)) 3 (0, hb_or l3 0))) (b := 3) (e := 0) (by decide +kernel) rfl ?_
        refine hw_inc (L' := (jm_st1 (jm_st1 (jm_st1 L 2 (0, hb_or l2 0)) 3 (0, hb_or l3 0)) 4 (0, l4 + 1))) (c := 1) (b := 4) (e := 0) (by decide +kernel) (get_st1 (get_st1 g4 (by decide) (fun q => absurd q.1 (by decide))) (by decide) (fun q => absurd q.1 (by decide))) rfl ?_
        refine hw_goto (a0 := 0) (b := 0) (e := 12) (by decide +kernel) ?_
        exact H
      · have H := hf16 q
        refine hw_k (c := 1) (b := 0) (e := 1) (by decide +kernel) ?_
        refine hw_ld (b := 4) (e := 1) (by decide +kernel) (get_st1 g4 (by decide) (fun q => absurd q.1 (by decide))) ?_
        refine hw_bin (w := hb_shl 1 l4) (a0 := 0) (b := 6) (e := 0) (by decide +kernel) rfl ?_
        refine hw_goto (a0 := 0) (b := 0) (e := 65) (by decide +kernel) ?_
        refine hw_bin (w := hb_or l3 (hb_shl 1 l4)) (a0 := 0) (b := 4) (e := 0) (by decide +kernel) rfl ?_
        refine hw_st (L' := (jm_st1 (jm_st1 L 2 (0, hb_or l2 0)) 3 (0, hb_or l3 (hb_shl 1 l4)))) (b := 3) (e := 0) (by decide +kernel) rfl ?_
        refine hw_inc (L' := (jm_st1 (jm_st1 (jm_st1 L 2 (0, hb_or l2 0)) 3 (0, hb_or l3 (hb_shl 1 l4))) 4 (0, l4 + 1))) (c := 1) (b := 4) (e := 0) (by decide +kernel) (get_st1 (get_st1 g4 (by decide) (fun q => absurd q.1 (by decide))) (by decide) (fun q => absurd q.1 (by decide))) rfl ?_
        refine hw_goto (a0 := 0) (b := 0) (e := 12) (by decide +kernel) ?_
        exact H
    · have H := hf14 q
      refine hw_k (c := 1) (b := 0) (e := 1) (by decide +kernel) ?_
      refine hw_ld (b := 4) (e := 1) (by decide +kernel) g4 ?_
      refine hw_bin (w := hb_shl 1 l4) (a0 := 0) (b := 6) (e := 0) (by decide +kernel) rfl ?_
      refine hw_goto (a0 := 0) (b := 0) (e := 45) (by decide +kernel) ?_
      refine hw_bin (w := hb_or l2 (hb_shl 1 l4)) (a0 := 0) (b := 4) (e := 0) (by decide +kernel) rfl ?_
      refine hw_st (L' := (jm_st1 L 2 (0, hb_or l2 (hb_shl 1 l4)))) (b := 2) (e := 0) (by decide +kernel) rfl ?_
      refine hw_ld (b := 3) (e := 0) (by decide +kernel) (get_st1 g3 (by decide) (fun q => absurd q.1 (by decide))) ?_
      refine hw_ald (b := 0) (e := 0) (by decide +kernel) (get_st1 g0 (by decide) (fun q => absurd q.1 (by decide))) (by decide) ?_
      refine hw_ld (b := 4) (e := 1) (by decide +kernel) (get_st1 g4 (by decide) (fun q => absurd q.1 (by decide))) ?_
      refine hr_call (a0 := 22) (b := 209) (e := 2) (nl := 3) (As := [(0, l4)]) (R := [(0, l3)]) 192 rfl (by decide +kernel) rfl rfl (Nat.le_of_ble_eq_true rfl) (Nat.le_of_ble_eq_true rfl) ?_
      refine hw_mono H ?_
      rintro r ψ17 y17 ⟨hyx, hψx, z17, hr, H⟩
      subst hyx
      subst hψx
      subst hr
      refine ⟨hne0, ?_⟩
      show hw sc (d + 1) 212 54 (jm_st1 L 2 (0, hb_or l2 (hb_shl 1 l4))) [(0, z17), (0, l3)] φ y17 Q
      obtain ⟨hz18, ht18, hf18⟩ := H
      refine hw_if (a0 := 0) (b := 2) (e := 64) (by decide +kernel) hz18 (fun q => ?_) (fun q => ?_)
      · have H := ht18 q
        refine hw_k (c := 0) (b := 0) (e := 1) (by decide +kernel) ?_
        refine hw_bin (w := hb_or l3 0) (a0 := 0) (b := 4) (e := 0) (by decide +kernel) rfl ?_
        refine hw_st (L' := (jm_st1 (jm_st1 L 2 (0, hb_or l2 (hb_shl 1 l4))) 3 (0, hb_or l3 0))) (b := 3) (e := 0) (by decide +kernel) rfl ?_
        refine hw_inc (L' := (jm_st1 (jm_st1 (jm_st1 L 2 (0, hb_or l2 (hb_shl 1 l4))) 3 (0, hb_or l3 0)) 4 (0, l4 + 1))) (c := 1) (b := 4) (e := 0) (by decide +kernel) (get_st1 (get_st1 g4 (by decide) (fun q => absurd q.1 (by decide))) (by decide) (fun q => absurd q.1 (by decide))) rfl ?_
        refine hw_goto (a0 := 0) (b := 0) (e := 12) (by decide +kernel) ?_
        exact H
      · have H := hf18 q
        refine hw_k (c := 1) (b := 0) (e := 1) (by decide +kernel) ?_
        refine hw_ld (b := 4) (e := 1) (by decide +kernel) (get_st1 g4 (by decide) (fun q => absurd q.1 (by decide))) ?_
        refine hw_bin (w := hb_shl 1 l4) (a0 := 0) (b := 6) (e := 0) (by decide +kernel) rfl ?_
        refine hw_goto (a0 := 0) (b := 0) (e := 65) (by decide +kernel) ?_
        refine hw_bin (w := hb_or l3 (hb_shl 1 l4)) (a0 := 0) (b := 4) (e := 0) (by decide +kernel) rfl ?_
        refine hw_st (L' := (jm_st1 (jm_st1 L 2 (0, hb_or l2 (hb_shl 1 l4))) 3 (0, hb_or l3 (hb_shl 1 l4)))) (b := 3) (e := 0) (by decide +kernel) rfl ?_
        refine hw_inc (L' := (jm_st1 (jm_st1 (jm_st1 L 2 (0, hb_or l2 (hb_shl 1 l4))) 3 (0, hb_or l3 (hb_shl 1 l4))) 4 (0, l4 + 1))) (c := 1) (b := 4) (e := 0) (by decide +kernel) (get_st1 (get_st1 g4 (by decide) (fun q => absurd q.1 (by decide))) (by decide) (fun q => absurd q.1 (by decide))) rfl ?_
        refine hw_goto (a0 := 0) (b := 0) (e := 12) (by decide +kernel) ?_
        exact H
theorem sf_212_192_l12 {sc : List Int} {d x : Nat} {Q : Option jm_V → hf_F → Nat → Prop} : ∀ (n : Nat) (φ : hf_F) (L : jm_L) (l1 l2 l3 l4 : Int), jm_get L 0 = some (2, 192) → jm_get L 1 = some (0, l1) → jm_get L 2 = some (0, l2) → jm_get L 3 = some (0, l3) → jm_get L 4 = some (0, l4) → Inv φ → 8 - l4 < (n : Int) → (-2147483648 : Int) ≤ l1 → l1 ≤ 2147483647 → (-2147483648 : Int) ≤ l2 → l2 ≤ 2147483647 → (-2147483648 : Int) ≤ l3 → l3 ≤ 2147483647 → 0 ≤ l4 → l4 ≤ 8 → (∀ (r : Int) (ψ : hf_F), Inv ψ → Fr [193000] φ ψ → True → F_RideLawsModel_now_192_l12 n φ l1 l2 l3 l4 = (r, ψ) → Q (some (0, r)) ψ x) → hw sc (d + 1) 212 12 L [] φ x Q := by
  intro n
  induction n with
  | zero =>
    intro φ L l1 l2 l3 l4 g0 g1 g2 g3 g4 hI hM b1a b1b b2a b2b b3a b3b b4a b4b hQ
    exfalso
    omega
  | succ n ih =>
    intro φ L l1 l2 l3 l4 g0 g1 g2 g3 g4 hI hM b1a b1b b2a b2b b3a b3b b4a b4b hQ
    refine sf_212_192_v12 g0 g1 g2 g3 g4 ?_
    have e0 := F_RideLawsModel_now_192_l12_s (φ := φ) (l1 := l1) (l2 := l2) (l3 := l3) (l4 := l4) n
    have f1 := iv_at (a := 194) (k := 1) (lo := 0) (u := 8) hI (by decide +kernel)
    refine ⟨by unfold hi; omega, by unfold hi; omega, fun q1 => ?_, fun q1 => ?_⟩
    · skip
      have e1a := e0.trans (if_pos q1)
      refine ⟨by unfold hi; omega, fun q2 => ?_, fun q2 => ?_, fun q2 => ?_, fun q2 => ?_, fun q2 => ?_, fun q2 => ?_, fun q2 => ?_, fun q2 => ?_, fun q2 => ?_⟩
      · skip
        have e2_0 := (e1a).trans (if_pos q2)
        exact hQ (φ 194 99) φ hI (fr_rf) trivial e2_0
      · skip
        have e2_1 := ((e1a).trans (if_neg (by omega))).trans (if_pos q2)
        have f2 := iv_at (a := 194) (k := 100) (lo := 0) (u := 8) hI (by decide +kernel)
        exact hQ ((φ 194 100) - 1) φ hI (fr_rf) trivial e2_1
      · skip
        have e2_2 := (((e1a).trans (if_neg (by omega))).trans (if_neg (by omega))).trans (if_pos q2)
        have f3 := iv_at (a := 194) (k := 101) (lo := 0) (u := 6) hI (by decide +kernel)
        exact hQ ((φ 194 101) - 1) φ hI (fr_rf) trivial e2_2
      · skip
        have e2_3 := ((((e1a).trans (if_neg (by omega))).trans (if_neg (by omega))).trans (if_neg (by omega))).trans (if_pos q2)
        have f4 := iv_at (a := 194) (k := 102) (lo := (-2147483648 : Int)) (u := 2147483647) hI (by decide +kernel)
        exact hQ (φ 194 102) φ hI (fr_rf) trivial e2_3
      · skip
        have e2_4 := (((((e1a).trans (if_neg (by omega))).trans (if_neg (by omega))).trans (if_neg (by omega))).trans (if_neg (by omega))).trans (if_pos q2)
        refine sf_213_192 (φ := φ) hI  (fun z7 hp7 hE7 => ⟨rfl, rfl, z7, rfl, ?_⟩)
        have e7 := e2_4.trans (bnp_e hE7)
        have f5 := congrArg jm_n hp7.2
        exact hQ z7 φ hI (fr_rf) trivial e7
      · skip
        have e2_5 := ((((((e1a).trans (if_neg (by omega))).trans (if_neg (by omega))).trans (if_neg (by omega))).trans (if_neg (by omega))).trans (if_neg (by omega))).trans (if_pos q2)
        exact hQ l2 φ hI (fr_rf) trivial e2_5
      · skip
        have e2_6 := (((((((e1a).trans (if_neg (by omega))).trans (if_neg (by omega))).trans (if_neg (by omega))).trans (if_neg (by omega))).trans (if_neg (by omega))).trans (if_neg (by omega))).trans (if_pos q2)
        exact hQ l3 φ hI (fr_rf) trivial e2_6
      · skip
        have e2_7 := ((((((((e1a).trans (if_neg (by omega))).trans (if_neg (by omega))).trans (if_neg (by omega))).trans (if_neg (by omega))).trans (if_neg (by omega))).trans (if_neg (by omega))).trans (if_neg (by omega))).trans (if_pos q2)
        exact hQ (φ 194 103) φ hI (fr_rf) trivial e2_7
      · skip
        have e2_8 := ((((((((e1a).trans (if_neg (by omega))).trans (if_neg (by omega))).trans (if_neg (by omega))).trans (if_neg (by omega))).trans (if_neg (by omega))).trans (if_neg (by omega))).trans (if_neg (by omega))).trans (if_neg (by omega))
        exact hQ (-1 : Int) φ hI (fr_rf) trivial e2_8
    · skip
      have e1b := e0.trans (if_neg q1)
      refine ⟨by omega, by omega, ?_⟩
      have f6 := iv_ar (a := 194) (s := 104) (t := 112) (lo := 0) (u := 29) (z := 104 + l4) hI (by decide +kernel) (by omega) (by omega)
      refine ⟨by unfold hi; omega, fun q14 => ?_, fun q14 => ?_⟩
      · skip
        have e14a := e1b.trans (if_pos q14)
        have f7 := hr_or l2 0
        refine sf_209_192 (φ := φ) hI (by omega) (by omega) (fun z15 hp15 hE15 => ⟨rfl, rfl, z15, rfl, ?_⟩)
        have e15 := e14a.trans (bnp_e hE15)
        refine ⟨by unfold hi; omega, fun q16 => ?_, fun q16 => ?_⟩
        · skip
          have e16a := e15.trans (if_pos q16)
          have f8 := hr_or l3 0
          exact ih φ (jm_st1 (jm_st1 (jm_st1 L 2 (0, hb_or l2 0)) 3 (0, hb_or l3 0)) 4 (0, l4 + 1)) l1 (hb_or l2 0) (hb_or l3 0) (l4 + 1) (get_st1 (get_st1 (get_st1 g0 (by decide) (fun q => absurd q.1 (by decide))) (by decide) (fun q => absurd q.1 (by decide))) (by decide) (fun q => absurd q.1 (by decide))) (get_st1 (get_st1 (get_st1 g1 (by decide) (fun q => tg0 q.2)) (by decide) (fun q => absurd q.1 (by decide))) (by decide) (fun q => absurd q.1 (by decide))) (get_st1 (get_st1 get_st1e (by decide) (fun q => tg0 q.2)) (by decide) (fun q => absurd q.1 (by decide))) (get_st1 get_st1e (by decide) (fun q => tg0 q.2)) get_st1e hI (by omega) (by omega) (by omega) (by omega) (by omega) (by omega) (by omega) (by omega) (by omega) (fun rr χ hIχ hFχ hpχ hEχ => hQ rr χ hIχ (fr_tr (fr_rf) hFχ (by decide)) hpχ (e16a.trans hEχ))
        · skip
          have e16b := e15.trans (if_neg q16)
          have f9 := hr_shl1 l4
          have f10 := hr_shl 1 l4
          have f11 := hr_or l3 (hb_shl 1 l4)
          exact ih φ (jm_st1 (jm_st1 (jm_st1 L 2 (0, hb_or l2 0)) 3 (0, hb_or l3 (hb_shl 1 l4))) 4 (0, l4 + 1)) l1 (hb_or l2 0) (hb_or l3 (hb_shl 1 l4)) (l4 + 1) (get_st1 (get_st1 (get_st1 g0 (by decide) (fun q => absurd q.1 (by decide))) (by decide) (fun q => absurd q.1 (by decide))) (by decide) (fun q => absurd q.1 (by decide))) (get_st1 (get_st1 (get_st1 g1 (by decide) (fun q => tg0 q.2)) (by decide) (fun q => absurd q.1 (by decide))) (by decide) (fun q => absurd q.1 (by decide))) (get_st1 (get_st1 get_st1e (by decide) (fun q => tg0 q.2)) (by decide) (fun q => absurd q.1 (by decide))) (get_st1 get_st1e (by decide) (fun q => tg0 q.2)) get_st1e hI (by omega) (by omega) (by omega) (by omega) (by omega) (by omega) (by omega) (by omega) (by omega) (fun rr χ hIχ hFχ hpχ hEχ => hQ rr χ hIχ (fr_tr (fr_rf) hFχ (by decide)) hpχ (e16b.trans hEχ))
      · skip
        have e14b := e1b.trans (if_neg q14)
        have f12 := hr_shl1 l4
        have f13 := hr_shl 1 l4
        have f14 := hr_or l2 (hb_shl 1 l4)
        refine sf_209_192 (φ := φ) hI (by omega) (by omega) (fun z17 hp17 hE17 => ⟨rfl, rfl, z17, rfl, ?_⟩)
        have e17 := e14b.trans (bnp_e hE17)
        refine ⟨by unfold hi; omega, fun q18 => ?_, fun q18 => ?_⟩
        · skip
          have e18a := e17.trans (if_pos q18)
          have f15 := hr_or l3 0
          exact ih φ (jm_st1 (jm_st1 (jm_st1 L 2 (0, hb_or l2 (hb_shl 1 l4))) 3 (0, hb_or l3 0)) 4 (0, l4 + 1)) l1 (hb_or l2 (hb_shl 1 l4)) (hb_or l3 0) (l4 + 1) (get_st1 (get_st1 (get_st1 g0 (by decide) (fun q => absurd q.1 (by decide))) (by decide) (fun q => absurd q.1 (by decide))) (by decide) (fun q => absurd q.1 (by decide))) (get_st1 (get_st1 (get_st1 g1 (by decide) (fun q => tg0 q.2)) (by decide) (fun q => absurd q.1 (by decide))) (by decide) (fun q => absurd q.1 (by decide))) (get_st1 (get_st1 get_st1e (by decide) (fun q => tg0 q.2)) (by decide) (fun q => absurd q.1 (by decide))) (get_st1 get_st1e (by decide) (fun q => tg0 q.2)) get_st1e hI (by omega) (by omega) (by omega) (by omega) (by omega) (by omega) (by omega) (by omega) (by omega) (fun rr χ hIχ hFχ hpχ hEχ => hQ rr χ hIχ (fr_tr (fr_rf) hFχ (by decide)) hpχ (e18a.trans hEχ))
        · skip
          have e18b := e17.trans (if_neg q18)
          have f16 := hr_or l3 (hb_shl 1 l4)
          exact ih φ (jm_st1 (jm_st1 (jm_st1 L 2 (0, hb_or l2 (hb_shl 1 l4))) 3 (0, hb_or l3 (hb_shl 1 l4))) 4 (0, l4 + 1)) l1 (hb_or l2 (hb_shl 1 l4)) (hb_or l3 (hb_shl 1 l4)) (l4 + 1) (get_st1 (get_st1 (get_st1 g0 (by decide) (fun q => absurd q.1 (by decide))) (by decide) (fun q => absurd q.1 (by decide))) (by decide) (fun q => absurd q.1 (by decide))) (get_st1 (get_st1 (get_st1 g1 (by decide) (fun q => tg0 q.2)) (by decide) (fun q => absurd q.1 (by decide))) (by decide) (fun q => absurd q.1 (by decide))) (get_st1 (get_st1 get_st1e (by decide) (fun q => tg0 q.2)) (by decide) (fun q => absurd q.1 (by decide))) (get_st1 get_st1e (by decide) (fun q => tg0 q.2)) get_st1e hI (by omega) (by omega) (by omega) (by omega) (by omega) (by omega) (by omega) (by omega) (by omega) (fun rr χ hIχ hFχ hpχ hEχ => hQ rr χ hIχ (fr_tr (fr_rf) hFχ (by decide)) hpχ (e18b.trans hEχ))
theorem sf_212_192_v {sc : List Int} {d : Nat} {φ : hf_F} {x : Nat} {Q : Option jm_V → hf_F → Nat → Prop} {v1 : Int}
    (H : hw sc (d + 1) 212 12 (jm_st1 (jm_st1 (jm_st1 [(0, (2, 192)), (1, (0, v1))] 2 (0, 0)) 3 (0, 0)) 4 (0, 0)) [] (hf_up φ 192 0 0) x Q) :
    hw sc (d + 1) 212 0 [(0, (2, 192)), (1, (0, v1))] [] φ x Q := by
  refine hw_ald (b := 0) (e := 0) (by decide +kernel) rfl (by decide) ?_
  refine hw_k (c := 0) (b := 0) (e := 1) (by decide +kernel) ?_
  refine hr_pi (b := 12) (e := 0) 192 rfl (by decide +kernel) ?_
  refine hw_k (c := 0) (b := 0) (e := 1) (by decide +kernel) ?_
  refine hw_st (L' := (jm_st1 [(0, (2, 192)), (1, (0, v1))] 2 (0, 0))) (b := 2) (e := 0) (by decide +kernel) rfl ?_
  refine hw_k (c := 0) (b := 0) (e := 1) (by decide +kernel) ?_
  refine hw_st (L' := (jm_st1 (jm_st1 [(0, (2, 192)), (1, (0, v1))] 2 (0, 0)) 3 (0, 0))) (b := 3) (e := 0) (by decide +kernel) rfl ?_
  refine hw_k (c := 0) (b := 0) (e := 1) (by decide +kernel) ?_
  refine hw_st (L' := (jm_st1 (jm_st1 (jm_st1 [(0, (2, 192)), (1, (0, v1))] 2 (0, 0)) 3 (0, 0)) 4 (0, 0))) (b := 4) (e := 1) (by decide +kernel) rfl ?_
  exact H
theorem sf_212_192 {sc : List Int} {d : Nat} {φ : hf_F} {x : Nat} {Q : Option jm_V → hf_F → Nat → Prop} {v1 : Int} (hI : Inv φ) (h1a : (-2147483648 : Int) ≤ v1) (h1b : v1 ≤ 2147483647) (hQ : ∀ (r : Int) (ψ : hf_F), Inv ψ → Fr [193000] φ ψ → True → F_RideLawsModel_now_192 φ v1 = (r, ψ) → Q (some (0, r)) ψ x) : hw sc (d + 1) 212 0 [(0, (2, 192)), (1, (0, v1))] [] φ x Q := by
  apply sf_212_192_v
  have e0 : F_RideLawsModel_now_192 φ v1 = _ := rfl
  have i1 : Inv (hf_up φ 192 0 0) := iv_up (lo := 0) (u := 1) hI (by decide +kernel) (by omega) (by omega)
  have r1 : Fr [193000] φ (hf_up φ 192 0 0) := fr_up (fr_rf) (by decide)
  exact sf_212_192_l12 ((8 - 0 : Int).toNat + 1) (hf_up φ 192 0 0) (jm_st1 (jm_st1 (jm_st1 [(0, (2, 192)), (1, (0, v1))] 2 (0, 0)) 3 (0, 0)) 4 (0, 0)) v1 0 0 0 (get_st1 (get_st1 (get_st1 rfl (by decide) (fun q => absurd q.1 (by decide))) (by decide) (fun q => absurd q.1 (by decide))) (by decide) (fun q => absurd q.1 (by decide))) (get_st1 (get_st1 (get_st1 rfl (by decide) (fun q => tg0 q.2)) (by decide) (fun q => absurd q.1 (by decide))) (by decide) (fun q => absurd q.1 (by decide))) (get_st1 (get_st1 get_st1e (by decide) (fun q => tg0 q.2)) (by decide) (fun q => absurd q.1 (by decide))) (get_st1 get_st1e (by decide) (fun q => tg0 q.2)) get_st1e i1 (by omega) (by omega) (by omega) (by omega) (by omega) (by omega) (by omega) (by omega) (by omega) (fun rr χ hIχ hFχ hpχ hEχ => hQ rr χ hIχ (fr_tr r1 hFχ (by decide)) hpχ (e0.trans hEχ))
theorem sf_214_192_v {sc : List Int} {d : Nat} {φ : hf_F} {x : Nat} {Q : Option jm_V → hf_F → Nat → Prop} {v1 v2 : Int}
    (H : hw sc (d + 1) 202 0 [(0, (2, 192)), (1, (0, v1))] [] (hf_up φ 192 0 0) x (fun r ψ1 y1 => y1 = x ∧ (hf_up φ 192 0 0) = ψ1 ∧ (∃ z1 : Int, r = some (0, z1) ∧ (hi z1 ∧ (z1 = 0 → Q (some (0, (-1 : Int))) (hf_up φ 192 0 0) x) ∧ (¬ z1 = 0 → hw sc (d + 1) 208 0 [(0, (2, 192)), (1, (0, v2))] [] (hf_up φ 192 0 0) x (fun r ψ4 y4 => y4 = x ∧ (hf_up φ 192 0 0) = ψ4 ∧ (∃ z4 : Int, r = some (0, z4) ∧ (hi z4 ∧ (¬ z4 = 0 → hw sc (d + 1) 215 0 [(0, (2, 192)), (1, (0, v1)), (2, (0, v2))] [] (hf_up φ 192 0 0) x (fun r ψ6 y6 => y6 = x ∧ (hf_up φ 192 0 0) = ψ6 ∧ (∃ z6 : Int, r = some (0, z6) ∧ (hi z6 ∧ (z6 ≤ 0 → hw sc (d + 1) 216 0 [(0, (2, 192))] [] (hf_up φ 192 0 0) x (fun r ψ8 y8 => y8 = x ∧ (r = none ∧ (0 ≤ (112 + v1) ∧ (112 + v1) < 361 ∧ (Q (some (0, 0)) (hf_up ψ8 194 ((112 + v1).toNat) (v2 + 1)) x))))) ∧ (¬ z6 ≤ 0 → Q (some (0, z6)) (hf_up φ 192 0 0) x))))) ∧ (¬ (¬ z4 = 0) → Q (some (0, (-1 : Int))) (hf_up φ 192 0 0) x))))))))) :
    hw sc (d + 2) 214 0 [(0, (2, 192)), (1, (0, v1)), (2, (0, v2))] [] φ x Q := by
  refine hw_ald (b := 0) (e := 0) (by decide +kernel) rfl (by decide) ?_
  refine hw_k (c := 0) (b := 0) (e := 1) (by decide +kernel) ?_
  refine hr_pi (b := 12) (e := 0) 192 rfl (by decide +kernel) ?_
  refine hw_ald (b := 0) (e := 0) (by decide +kernel) rfl (by decide) ?_
  refine hw_ld (b := 1) (e := 0) (by decide +kernel) rfl ?_
  refine hr_call (a0 := 22) (b := 202) (e := 2) (nl := 2) (As := [(0, v1)]) (R := []) 192 rfl (by decide +kernel) rfl rfl (Nat.le_of_ble_eq_true rfl) (Nat.le_of_ble_eq_true rfl) ?_
  refine hw_mono H ?_
  rintro r ψ1 y1 ⟨hyx, hψx, z1, hr, H⟩
  subst hyx
  subst hψx
  subst hr
  refine ⟨hne0, ?_⟩
  show hw sc (d + 2) 214 10 [(0, (2, 192)), (1, (0, v1)), (2, (0, v2))] [(0, z1)] (hf_up φ 192 0 0) y1 Q
  obtain ⟨hz2, ht2, hf2⟩ := H
  refine hw_if (a0 := 0) (b := 0) (e := 21) (by decide +kernel) hz2 (fun q => ?_) (fun q => ?_)
  · have H := ht2 q
    refine hw_k (c := (-1 : Int)) (b := 0) (e := 1) (by decide +kernel) ?_
    exact hw_ret (a0 := 0) (e := 0) (by decide +kernel) (Or.inl rfl) H
  · have H := hf2 q
    refine hw_ald (b := 0) (e := 0) (by decide +kernel) rfl (by decide) ?_
    refine hw_ld (b := 2) (e := 0) (by decide +kernel) rfl ?_
    refine hr_call (a0 := 22) (b := 208) (e := 2) (nl := 2) (As := [(0, v2)]) (R := []) 192 rfl (by decide +kernel) rfl rfl (Nat.le_of_ble_eq_true rfl) (Nat.le_of_ble_eq_true rfl) ?_
    refine hw_mono H ?_
    rintro r ψ4 y4 ⟨hyx, hψx, z4, hr, H⟩
    subst hyx
    subst hψx
    subst hr
    refine ⟨hne0, ?_⟩
    show hw sc (d + 2) 214 18 [(0, (2, 192)), (1, (0, v1)), (2, (0, v2))] [(0, z4)] (hf_up φ 192 0 0) y4 Q
    obtain ⟨hz5, ht5, hf5⟩ := H
    refine hw_if (a0 := 0) (b := 1) (e := 23) (by decide +kernel) hz5 (fun q => ?_) (fun q => ?_)
    · have H := ht5 q
      refine hw_ald (b := 0) (e := 0) (by decide +kernel) rfl (by decide) ?_
      refine hw_ld (b := 1) (e := 0) (by decide +kernel) rfl ?_
      refine hw_ld (b := 2) (e := 0) (by decide +kernel) rfl ?_
      refine hr_call (a0 := 22) (b := 215) (e := 3) (nl := 3) (As := [(0, v1), (0, v2)]) (R := []) 192 rfl (by decide +kernel) rfl rfl (Nat.le_of_ble_eq_true rfl) (Nat.le_of_ble_eq_true rfl) ?_
      refine hw_mono H ?_
      rintro r ψ6 y6 ⟨hyx, hψx, z6, hr, H⟩
      subst hyx
      subst hψx
      subst hr
      refine ⟨hne0, ?_⟩
      show hw sc (d + 2) 214 29 [(0, (2, 192)), (1, (0, v1)), (2, (0, v2))] [(0, z6)] (hf_up φ 192 0 0) y6 Q
      refine hw_st (L' := (jm_st1 [(0, (2, 192)), (1, (0, v1)), (2, (0, v2))] 3 (0, z6))) (b := 3) (e := 0) (by decide +kernel) rfl ?_
      refine hw_ld (b := 3) (e := 0) (by decide +kernel) get_st1e ?_
      obtain ⟨hz7, ht7, hf7⟩ := H
      refine hw_if (a0 := 0) (b := 5) (e := 36) (by decide +kernel) hz7 (fun q => ?_) (fun q => ?_)
      · have H := ht7 q
        refine hw_ald (b := 0) (e := 0) (by decide +kernel) (get_st1 rfl (by decide) (fun q => absurd q.1 (by decide))) (by decide) ?_
        refine hr_call (a0 := 22) (b := 216) (e := 1) (nl := 2) (As := []) (R := []) 192 rfl (by decide +kernel) rfl rfl (Nat.le_of_ble_eq_true rfl) (Nat.le_of_ble_eq_true rfl) ?_
        refine hw_mono H ?_
        rintro r ψ8 y8 ⟨hyx, hr, H⟩
        subst hyx
        subst hr
        refine ⟨hnen, ?_⟩
        show hw sc (d + 2) 214 40 (jm_st1 [(0, (2, 192)), (1, (0, v1)), (2, (0, v2))] 3 (0, z6)) [] ψ8 y8 Q
        refine hw_ald (b := 0) (e := 0) (by decide +kernel) (get_st1 rfl (by decide) (fun q => absurd q.1 (by decide))) (by decide) ?_
        refine hr_gr (w := 194) (b := 12) (e := 6) 192 rfl (by decide +kernel) ?_
        refine hw_k (c := 112) (b := 1) (e := 2) (by decide +kernel) ?_
        refine hw_ld (b := 1) (e := 0) (by decide +kernel) (get_st1 rfl (by decide) (fun q => absurd q.1 (by decide))) ?_
        refine hw_bin (w := 112 + v1) (a0 := 0) (b := 0) (e := 0) (by decide +kernel) rfl ?_
        refine hw_ld (b := 2) (e := 0) (by decide +kernel) (get_st1 rfl (by decide) (fun q => tg0 q.2)) ?_
        refine hw_k (c := 1) (b := 0) (e := 1) (by decide +kernel) ?_
        refine hw_bin (w := v2 + 1) (a0 := 0) (b := 0) (e := 0) (by decide +kernel) rfl ?_
        obtain ⟨hl9, hu9, H⟩ := H
        refine hr_as (a0 := 0) (e := 4) (n := 361) 194 rfl (by decide +kernel) hl9 hu9 ?_
        refine hw_k (c := 0) (b := 0) (e := 1) (by decide +kernel) ?_
        exact hw_ret (a0 := 0) (e := 0) (by decide +kernel) (Or.inl rfl) H
      · have H := hf7 q
        refine hw_ld (b := 3) (e := 0) (by decide +kernel) get_st1e ?_
        exact hw_ret (a0 := 0) (e := 0) (by decide +kernel) (Or.inl rfl) H
    · have H := hf5 q
      refine hw_k (c := (-1 : Int)) (b := 0) (e := 1) (by decide +kernel) ?_
      exact hw_ret (a0 := 0) (e := 0) (by decide +kernel) (Or.inl rfl) H
theorem sf_214_192 {sc : List Int} {d : Nat} {φ : hf_F} {x : Nat} {Q : Option jm_V → hf_F → Nat → Prop} {v1 v2 : Int} (hI : Inv φ) (h1a : (-2147483648 : Int) ≤ v1) (h1b : v1 ≤ 2147483647) (h2a : (-2147483648 : Int) ≤ v2) (h2b : v2 ≤ 2147483647) (hQ : ∀ (r : Int) (ψ : hf_F), Inv ψ → Fr [194, 199, 193000, 193022] φ ψ → True → F_RideLawsModel_mount_192 φ v1 v2 = (r, ψ) → Q (some (0, r)) ψ x) : hw sc (d + 2) 214 0 [(0, (2, 192)), (1, (0, v1)), (2, (0, v2))] [] φ x Q := by
  apply sf_214_192_v
  have e0 : F_RideLawsModel_mount_192 φ v1 v2 = _ := rfl
  have i1 : Inv (hf_up φ 192 0 0) := iv_up (lo := 0) (u := 1) hI (by decide +kernel) (by omega) (by omega)
  have r1 : Fr [194, 199, 193000, 193022] φ (hf_up φ 192 0 0) := fr_up (fr_rf) (by decide)
  refine sf_202_192 (φ := (hf_up φ 192 0 0)) i1 (by omega) (by omega) (fun z1 hp1 hE1 => ⟨rfl, rfl, z1, rfl, ?_⟩)
  have e1 := e0.trans (bnp_e hE1)
  have f2 : (hf_up φ 192 0 0) 194 3 = φ 194 3 := (hf_up_ne (fun q => absurd q.1 (by decide)))
  have f3 := iv_at (a := 194) (k := 3) (lo := 0) (u := 6) hI (by decide +kernel)
  refine ⟨by unfold hi; omega, fun q2 => ?_, fun q2 => ?_⟩
  · skip
    have e2a := e1.trans (if_pos q2)
    exact hQ (-1 : Int) (hf_up φ 192 0 0) i1 r1 trivial e2a
  · skip
    have e2b := e1.trans (if_neg q2)
    refine sf_208_192 (φ := (hf_up φ 192 0 0)) i1 (by omega) (by omega) (fun z4 hp4 hE4 => ⟨rfl, rfl, z4, rfl, ?_⟩)
    have e4 := e2b.trans (bnp_e hE4)
    have f4 : (hf_up φ 192 0 0) 194 1 = φ 194 1 := (hf_up_ne (fun q => absurd q.1 (by decide)))
    have f5 := iv_at (a := 194) (k := 1) (lo := 0) (u := 8) hI (by decide +kernel)
    refine ⟨by unfold hi; omega, fun q5 => ?_, fun q5 => ?_⟩
    · skip
      have e5a := e4.trans (if_pos q5)
      refine sf_215_192 (φ := (hf_up φ 192 0 0)) i1 (by omega) (by omega) (by omega) (by omega) (fun z6 hp6 hE6 => ⟨rfl, rfl, z6, rfl, ?_⟩)
      have e6 := e5a.trans (bnp_e hE6)
      refine ⟨by unfold hi; omega, fun q7 => ?_, fun q7 => ?_⟩
      · skip
        have e7a := e6.trans (if_pos q7)
        refine sf_216_192 (φ := (hf_up φ 192 0 0)) i1  (fun ψ8 hI8 hF8 hV8 hE8 => ⟨rfl, rfl, ?_⟩)
        have hG8 : Fr [194, 199, 193000, 193022] φ ψ8 := fr_tr r1 hF8 (by decide)
        have f6 := iv_at (a := 192) (k := 22) (lo := 0) (u := 8) hI8 (by decide +kernel)
        have e8 := e7a.trans (bnv_e hE8)
        refine ⟨by omega, by omega, ?_⟩
        have i7 : Inv (hf_up ψ8 194 ((112 + v1).toNat) (v2 + 1)) := iv_upI (s := 112) (t := 118) (lo := 0) (u := 8) (z := 112 + v1) hI8 (by decide +kernel) (by omega) (by omega) (by omega) (by omega)
        have r7 : Fr [194, 199, 193000, 193022] φ (hf_up ψ8 194 ((112 + v1).toNat) (v2 + 1)) := fr_upa hG8 (by decide)
        exact hQ 0 (hf_up ψ8 194 ((112 + v1).toNat) (v2 + 1)) i7 r7 trivial e8
      · skip
        have e7b := e6.trans (if_neg q7)
        exact hQ z6 (hf_up φ 192 0 0) i1 r1 trivial e7b
    · skip
      have e5b := e4.trans (if_neg q5)
      exact hQ (-1 : Int) (hf_up φ 192 0 0) i1 r1 trivial e5b
theorem sf_217_192_v {sc : List Int} {d : Nat} {φ : hf_F} {x : Nat} {Q : Option jm_V → hf_F → Nat → Prop} {v1 : Int}
    (H : hw sc (d + 1) 202 0 [(0, (2, 192)), (1, (0, v1))] [] (hf_up φ 192 0 0) x (fun r ψ1 y1 => y1 = x ∧ (hf_up φ 192 0 0) = ψ1 ∧ (∃ z1 : Int, r = some (0, z1) ∧ (hi z1 ∧ (¬ z1 = 0 → 0 ≤ (112 + v1) ∧ (112 + v1) < 361 ∧ (hi (φ 194 ((112 + v1).toNat)) ∧ (¬ (φ 194 ((112 + v1).toNat)) = 0 → hw sc (d + 1) 216 0 [(0, (2, 192))] [] (hf_up φ 192 0 0) x (fun r ψ5 y5 => y5 = x ∧ (r = none ∧ (0 ≤ (112 + v1) ∧ (112 + v1) < 361 ∧ (Q (some (0, 0)) (hf_up ψ5 194 ((112 + v1).toNat) 0) x))))) ∧ (¬ (¬ (φ 194 ((112 + v1).toNat)) = 0) → Q (some (0, 1)) (hf_up φ 192 0 0) x))) ∧ (¬ (¬ z1 = 0) → Q (some (0, (-1 : Int))) (hf_up φ 192 0 0) x))))) :
    hw sc (d + 2) 217 0 [(0, (2, 192)), (1, (0, v1))] [] φ x Q := by
  refine hw_ald (b := 0) (e := 0) (by decide +kernel) rfl (by decide) ?_
  refine hw_k (c := 0) (b := 0) (e := 1) (by decide +kernel) ?_
  refine hr_pi (b := 12) (e := 0) 192 rfl (by decide +kernel) ?_
  refine hw_ald (b := 0) (e := 0) (by decide +kernel) rfl (by decide) ?_
  refine hw_ld (b := 1) (e := 0) (by decide +kernel) rfl ?_
  refine hr_call (a0 := 22) (b := 202) (e := 2) (nl := 2) (As := [(0, v1)]) (R := []) 192 rfl (by decide +kernel) rfl rfl (Nat.le_of_ble_eq_true rfl) (Nat.le_of_ble_eq_true rfl) ?_
  refine hw_mono H ?_
  rintro r ψ1 y1 ⟨hyx, hψx, z1, hr, H⟩
  subst hyx
  subst hψx
  subst hr
  refine ⟨hne0, ?_⟩
  show hw sc (d + 2) 217 10 [(0, (2, 192)), (1, (0, v1))] [(0, z1)] (hf_up φ 192 0 0) y1 Q
  obtain ⟨hz2, ht2, hf2⟩ := H
  refine hw_if (a0 := 0) (b := 1) (e := 15) (by decide +kernel) hz2 (fun q => ?_) (fun q => ?_)
  · have H := ht2 q
    refine hw_ald (b := 0) (e := 0) (by decide +kernel) rfl (by decide) ?_
    refine hr_gr (w := 194) (b := 12) (e := 6) 192 rfl (by decide +kernel) ?_
    refine hw_k (c := 112) (b := 1) (e := 2) (by decide +kernel) ?_
    refine hw_ld (b := 1) (e := 0) (by decide +kernel) rfl ?_
    refine hw_bin (w := 112 + v1) (a0 := 0) (b := 0) (e := 0) (by decide +kernel) rfl ?_
    obtain ⟨hl3, hu3, H⟩ := H
    refine hr_al (b := 0) (a0 := 0) (e := 0) (n := 361) (w := φ 194 ((112 + v1).toNat)) 194 rfl (by decide +kernel) (by decide) hl3 hu3 (hf_up_ne (fun q => absurd q.1 (by decide))) ?_
    obtain ⟨hz4, ht4, hf4⟩ := H
    refine hw_if (a0 := 0) (b := 1) (e := 29) (by decide +kernel) hz4 (fun q => ?_) (fun q => ?_)
    · have H := ht4 q
      refine hw_ald (b := 0) (e := 0) (by decide +kernel) rfl (by decide) ?_
      refine hr_call (a0 := 22) (b := 216) (e := 1) (nl := 2) (As := []) (R := []) 192 rfl (by decide +kernel) rfl rfl (Nat.le_of_ble_eq_true rfl) (Nat.le_of_ble_eq_true rfl) ?_
      refine hw_mono H ?_
      rintro r ψ5 y5 ⟨hyx, hr, H⟩
      subst hyx
      subst hr
      refine ⟨hnen, ?_⟩
      show hw sc (d + 2) 217 33 [(0, (2, 192)), (1, (0, v1))] [] ψ5 y5 Q
      refine hw_ald (b := 0) (e := 0) (by decide +kernel) rfl (by decide) ?_
      refine hr_gr (w := 194) (b := 12) (e := 6) 192 rfl (by decide +kernel) ?_
      refine hw_k (c := 112) (b := 1) (e := 2) (by decide +kernel) ?_
      refine hw_ld (b := 1) (e := 0) (by decide +kernel) rfl ?_
      refine hw_bin (w := 112 + v1) (a0 := 0) (b := 0) (e := 0) (by decide +kernel) rfl ?_
      refine hw_k (c := 0) (b := 0) (e := 1) (by decide +kernel) ?_
      obtain ⟨hl6, hu6, H⟩ := H
      refine hr_as (a0 := 0) (e := 4) (n := 361) 194 rfl (by decide +kernel) hl6 hu6 ?_
      refine hw_k (c := 0) (b := 0) (e := 1) (by decide +kernel) ?_
      exact hw_ret (a0 := 0) (e := 0) (by decide +kernel) (Or.inl rfl) H
    · have H := hf4 q
      refine hw_k (c := 1) (b := 0) (e := 1) (by decide +kernel) ?_
      exact hw_ret (a0 := 0) (e := 0) (by decide +kernel) (Or.inl rfl) H
  · have H := hf2 q
    refine hw_k (c := (-1 : Int)) (b := 0) (e := 1) (by decide +kernel) ?_
    exact hw_ret (a0 := 0) (e := 0) (by decide +kernel) (Or.inl rfl) H
theorem sf_217_192 {sc : List Int} {d : Nat} {φ : hf_F} {x : Nat} {Q : Option jm_V → hf_F → Nat → Prop} {v1 : Int} (hI : Inv φ) (h1a : (-2147483648 : Int) ≤ v1) (h1b : v1 ≤ 2147483647) (hQ : ∀ (r : Int) (ψ : hf_F), Inv ψ → Fr [194, 199, 193000, 193022] φ ψ → True → F_RideLawsModel_alight_192 φ v1 = (r, ψ) → Q (some (0, r)) ψ x) : hw sc (d + 2) 217 0 [(0, (2, 192)), (1, (0, v1))] [] φ x Q := by
  apply sf_217_192_v
  have e0 : F_RideLawsModel_alight_192 φ v1 = _ := rfl
  have i1 : Inv (hf_up φ 192 0 0) := iv_up (lo := 0) (u := 1) hI (by decide +kernel) (by omega) (by omega)
  have r1 : Fr [194, 199, 193000, 193022] φ (hf_up φ 192 0 0) := fr_up (fr_rf) (by decide)
  refine sf_202_192 (φ := (hf_up φ 192 0 0)) i1 (by omega) (by omega) (fun z1 hp1 hE1 => ⟨rfl, rfl, z1, rfl, ?_⟩)
  have e1 := e0.trans (bnp_e hE1)
  have f2 : (hf_up φ 192 0 0) 194 3 = φ 194 3 := (hf_up_ne (fun q => absurd q.1 (by decide)))
  have f3 := iv_at (a := 194) (k := 3) (lo := 0) (u := 6) hI (by decide +kernel)
  refine ⟨by unfold hi; omega, fun q2 => ?_, fun q2 => ?_⟩
  · skip
    have e2a := e1.trans (if_pos q2)
    refine ⟨by omega, by omega, ?_⟩
    have f4 := iv_ar (a := 194) (s := 112) (t := 118) (lo := 0) (u := 8) (z := 112 + v1) hI (by decide +kernel) (by omega) (by omega)
    refine ⟨by unfold hi; omega, fun q4 => ?_, fun q4 => ?_⟩
    · skip
      have e4a := e2a.trans (if_pos q4)
      refine sf_216_192 (φ := (hf_up φ 192 0 0)) i1  (fun ψ5 hI5 hF5 hV5 hE5 => ⟨rfl, rfl, ?_⟩)
      have hG5 : Fr [194, 199, 193000, 193022] φ ψ5 := fr_tr r1 hF5 (by decide)
      have f5 := iv_at (a := 192) (k := 22) (lo := 0) (u := 8) hI5 (by decide +kernel)
      have e5 := e4a.trans (bnv_e hE5)
      refine ⟨by omega, by omega, ?_⟩
      have i6 : Inv (hf_up ψ5 194 ((112 + v1).toNat) 0) := iv_upI (s := 112) (t := 118) (lo := 0) (u := 8) (z := 112 + v1) hI5 (by decide +kernel) (by omega) (by omega) (by omega) (by omega)
      have r6 : Fr [194, 199, 193000, 193022] φ (hf_up ψ5 194 ((112 + v1).toNat) 0) := fr_upa hG5 (by decide)
      exact hQ 0 (hf_up ψ5 194 ((112 + v1).toNat) 0) i6 r6 trivial e5
    · skip
      have e4b := e2a.trans (if_neg q4)
      exact hQ 1 (hf_up φ 192 0 0) i1 r1 trivial e4b
  · skip
    have e2b := e1.trans (if_neg q2)
    exact hQ (-1 : Int) (hf_up φ 192 0 0) i1 r1 trivial e2b
theorem sf_220_192_v {sc : List Int} {d : Nat} {φ : hf_F} {x : Nat} {Q : Option jm_V → hf_F → Nat → Prop} {v1 v2 : Int}
    (H : 0 ≤ (118 + v1) ∧ (118 + v1) < 361 ∧ (0 ≤ ((124 + (6 * v1)) + (φ 194 ((118 + v1).toNat))) ∧ ((124 + (6 * v1)) + (φ 194 ((118 + v1).toNat))) < 361 ∧ (0 ≤ (118 + v1) ∧ (118 + v1) < 361 ∧ (0 ≤ (118 + v1) ∧ (118 + v1) < 361 ∧ (Q none (hf_up (hf_up φ 194 (((124 + (6 * v1)) + (φ 194 ((118 + v1).toNat))).toNat) v2) 194 ((118 + v1).toNat) (((hf_up φ 194 (((124 + (6 * v1)) + (φ 194 ((118 + v1).toNat))).toNat) v2) 194 ((118 + v1).toNat)) + 1)) x))))) :
    hw sc d 220 0 [(0, (2, 192)), (1, (0, v1)), (2, (0, v2))] [] φ x Q := by
  refine hw_ald (b := 0) (e := 0) (by decide +kernel) rfl (by decide) ?_
  refine hr_gr (w := 194) (b := 12) (e := 6) 192 rfl (by decide +kernel) ?_
  refine hw_k (c := 124) (b := 1) (e := 2) (by decide +kernel) ?_
  refine hw_k (c := 6) (b := 1) (e := 2) (by decide +kernel) ?_
  refine hw_ld (b := 1) (e := 0) (by decide +kernel) rfl ?_
  refine hw_bin (w := 6 * v1) (a0 := 0) (b := 2) (e := 0) (by decide +kernel) rfl ?_
  refine hw_bin (w := 124 + (6 * v1)) (a0 := 0) (b := 0) (e := 0) (by decide +kernel) rfl ?_
  refine hw_ald (b := 0) (e := 0) (by decide +kernel) rfl (by decide) ?_
  refine hr_gr (w := 194) (b := 12) (e := 6) 192 rfl (by decide +kernel) ?_
  refine hw_k (c := 118) (b := 1) (e := 2) (by decide +kernel) ?_
  refine hw_ld (b := 1) (e := 0) (by decide +kernel) rfl ?_
  refine hw_bin (w := 118 + v1) (a0 := 0) (b := 0) (e := 0) (by decide +kernel) rfl ?_
  obtain ⟨hl1, hu1, H⟩ := H
  refine hr_al (b := 0) (a0 := 0) (e := 0) (n := 361) (w := φ 194 ((118 + v1).toNat)) 194 rfl (by decide +kernel) (by decide) hl1 hu1 rfl ?_
  refine hw_bin (w := (124 + (6 * v1)) + (φ 194 ((118 + v1).toNat))) (a0 := 0) (b := 0) (e := 0) (by decide +kernel) rfl ?_
  refine hw_ld (b := 2) (e := 0) (by decide +kernel) rfl ?_
  obtain ⟨hl2, hu2, H⟩ := H
  refine hr_as (a0 := 0) (e := 4) (n := 361) 194 rfl (by decide +kernel) hl2 hu2 ?_
  refine hw_ald (b := 0) (e := 0) (by decide +kernel) rfl (by decide) ?_
  refine hr_gr (w := 194) (b := 12) (e := 6) 192 rfl (by decide +kernel) ?_
  refine hw_k (c := 118) (b := 1) (e := 2) (by decide +kernel) ?_
  refine hw_ld (b := 1) (e := 0) (by decide +kernel) rfl ?_
  refine hw_bin (w := 118 + v1) (a0 := 0) (b := 0) (e := 0) (by decide +kernel) rfl ?_
  refine hw_dup2 (a0 := 0) (e := 0) (by decide +kernel) (by decide) (by decide) ?_
  obtain ⟨hl3, hu3, H⟩ := H
  refine hr_al (b := 0) (a0 := 0) (e := 0) (n := 361) (w := (hf_up φ 194 (((124 + (6 * v1)) + (φ 194 ((118 + v1).toNat))).toNat) v2) 194 ((118 + v1).toNat)) 194 rfl (by decide +kernel) (by decide) hl3 hu3 rfl ?_
  refine hw_k (c := 1) (b := 0) (e := 1) (by decide +kernel) ?_
  refine hw_bin (w := ((hf_up φ 194 (((124 + (6 * v1)) + (φ 194 ((118 + v1).toNat))).toNat) v2) 194 ((118 + v1).toNat)) + 1) (a0 := 0) (b := 0) (e := 0) (by decide +kernel) rfl ?_
  obtain ⟨hl4, hu4, H⟩ := H
  refine hr_as (a0 := 0) (e := 4) (n := 361) 194 rfl (by decide +kernel) hl4 hu4 ?_
  exact hw_vret (a0 := 0) (e := 0) (by decide +kernel) H
theorem sf_220_192 {sc : List Int} {d : Nat} {φ : hf_F} {x : Nat} {Q : Option jm_V → hf_F → Nat → Prop} {v1 v2 : Int} (hI : Inv φ) (h1a : 0 ≤ v1) (h1b : v1 ≤ 5) (h2a : 0 ≤ v2) (h2b : v2 ≤ 7) (hp0 : φ 194 (118 + v1).toNat ≤ 5) (hQ : ∀ ψ : hf_F, Inv ψ → Fr [194] φ ψ → F_RideLawsModel_learns_192 φ v1 v2 = ψ → Q none ψ x) : hw sc d 220 0 [(0, (2, 192)), (1, (0, v1)), (2, (0, v2))] [] φ x Q := by
  apply sf_220_192_v
  have e0 : F_RideLawsModel_learns_192 φ v1 v2 = _ := rfl
  refine ⟨by omega, by omega, ?_⟩
  have f1 := iv_ar (a := 194) (s := 118) (t := 124) (lo := 0) (u := 6) (z := 118 + v1) hI (by decide +kernel) (by omega) (by omega)
  refine ⟨by omega, by omega, ?_⟩
  have i2 : Inv (hf_up φ 194 (((124 + (6 * v1)) + (φ 194 ((118 + v1).toNat))).toNat) v2) := iv_upI (s := 124) (t := 160) (lo := 0) (u := 7) (z := (124 + (6 * v1)) + (φ 194 ((118 + v1).toNat))) hI (by decide +kernel) (by omega) (by omega) (by omega) (by omega)
  have r2 : Fr [194] φ (hf_up φ 194 (((124 + (6 * v1)) + (φ 194 ((118 + v1).toNat))).toNat) v2) := fr_upa (fr_rf) (by decide)
  refine ⟨by omega, by omega, ?_⟩
  have f3 := iv_ar (a := 194) (s := 118) (t := 124) (lo := 0) (u := 6) (z := 118 + v1) i2 (by decide +kernel) (by omega) (by omega)
  have f4 : (hf_up φ 194 (((124 + (6 * v1)) + (φ 194 ((118 + v1).toNat))).toNat) v2) 194 ((118 + v1).toNat) = φ 194 ((118 + v1).toNat) := (hf_up_ne (fun q => absurd q.2 (by omega)))
  refine ⟨by omega, by omega, ?_⟩
  have i5 : Inv (hf_up (hf_up φ 194 (((124 + (6 * v1)) + (φ 194 ((118 + v1).toNat))).toNat) v2) 194 ((118 + v1).toNat) (((hf_up φ 194 (((124 + (6 * v1)) + (φ 194 ((118 + v1).toNat))).toNat) v2) 194 ((118 + v1).toNat)) + 1)) := iv_upI (s := 118) (t := 124) (lo := 0) (u := 6) (z := 118 + v1) i2 (by decide +kernel) (by omega) (by omega) (by omega) (by omega)
  have r5 : Fr [194] φ (hf_up (hf_up φ 194 (((124 + (6 * v1)) + (φ 194 ((118 + v1).toNat))).toNat) v2) 194 ((118 + v1).toNat) (((hf_up φ 194 (((124 + (6 * v1)) + (φ 194 ((118 + v1).toNat))).toNat) v2) 194 ((118 + v1).toNat)) + 1)) := fr_upa r2 (by decide)
  exact hQ (hf_up (hf_up φ 194 (((124 + (6 * v1)) + (φ 194 ((118 + v1).toNat))).toNat) v2) 194 ((118 + v1).toNat) (((hf_up φ 194 (((124 + (6 * v1)) + (φ 194 ((118 + v1).toNat))).toNat) v2) 194 ((118 + v1).toNat)) + 1)) i5 r5 e0
theorem sf_218_192_v {sc : List Int} {d : Nat} {φ : hf_F} {x : Nat} {Q : Option jm_V → hf_F → Nat → Prop} {v1 v2 : Int}
    (H : hw sc (d + 1) 202 0 [(0, (2, 192)), (1, (0, v1))] [] (hf_up φ 192 0 0) x (fun r ψ1 y1 => y1 = x ∧ (hf_up φ 192 0 0) = ψ1 ∧ (∃ z1 : Int, r = some (0, z1) ∧ (hi z1 ∧ (z1 = 0 → Q (some (0, (-1 : Int))) (hf_up φ 192 0 0) x) ∧ (¬ z1 = 0 → hw sc (d + 1) 188 0 [(0, (0, v2)), (1, (0, 0)), (2, (0, (φ 194 2) - 1))] [] (hf_up φ 192 0 0) x (fun r ψ4 y4 => y4 = x ∧ (hf_up φ 192 0 0) = ψ4 ∧ (∃ z4 : Int, r = some (0, z4) ∧ (hi z4 ∧ (¬ z4 = 0 → hw sc (d + 1) 219 0 [(0, (2, 192)), (1, (0, v1))] [] (hf_up φ 192 0 0) x (fun r ψ6 y6 => y6 = x ∧ (hf_up φ 192 0 0) = ψ6 ∧ (∃ z6 : Int, r = some (0, z6) ∧ (hi z6 ∧ (z6 ≤ 0 → hw sc (d + 1) 216 0 [(0, (2, 192))] [] (hf_up φ 192 0 0) x (fun r ψ8 y8 => y8 = x ∧ (r = none ∧ (hw sc (d + 1) 220 0 [(0, (2, 192)), (1, (0, v1)), (2, (0, v2))] [] ψ8 x (fun r ψ9 y9 => y9 = x ∧ (r = none ∧ (Q (some (0, 0)) ψ9 x))))))) ∧ (¬ z6 ≤ 0 → Q (some (0, 1)) (hf_up φ 192 0 0) x))))) ∧ (¬ (¬ z4 = 0) → Q (some (0, (-1 : Int))) (hf_up φ 192 0 0) x))))))))) :
    hw sc (d + 2) 218 0 [(0, (2, 192)), (1, (0, v1)), (2, (0, v2))] [] φ x Q := by
  refine hw_ald (b := 0) (e := 0) (by decide +kernel) rfl (by decide) ?_
  refine hw_k (c := 0) (b := 0) (e := 1) (by decide +kernel) ?_
  refine hr_pi (b := 12) (e := 0) 192 rfl (by decide +kernel) ?_
  refine hw_ald (b := 0) (e := 0) (by decide +kernel) rfl (by decide) ?_
  refine hw_ld (b := 1) (e := 0) (by decide +kernel) rfl ?_
  refine hr_call (a0 := 22) (b := 202) (e := 2) (nl := 2) (As := [(0, v1)]) (R := []) 192 rfl (by decide +kernel) rfl rfl (Nat.le_of_ble_eq_true rfl) (Nat.le_of_ble_eq_true rfl) ?_
  refine hw_mono H ?_
  rintro r ψ1 y1 ⟨hyx, hψx, z1, hr, H⟩
  subst hyx
  subst hψx
  subst hr
  refine ⟨hne0, ?_⟩
  show hw sc (d + 2) 218 10 [(0, (2, 192)), (1, (0, v1)), (2, (0, v2))] [(0, z1)] (hf_up φ 192 0 0) y1 Q
  obtain ⟨hz2, ht2, hf2⟩ := H
  refine hw_if (a0 := 0) (b := 0) (e := 29) (by decide +kernel) hz2 (fun q => ?_) (fun q => ?_)
  · have H := ht2 q
    refine hw_k (c := (-1 : Int)) (b := 0) (e := 1) (by decide +kernel) ?_
    exact hw_ret (a0 := 0) (e := 0) (by decide +kernel) (Or.inl rfl) H
  · have H := hf2 q
    refine hw_ld (b := 2) (e := 0) (by decide +kernel) rfl ?_
    refine hw_k (c := 0) (b := 0) (e := 1) (by decide +kernel) ?_
    refine hw_ald (b := 0) (e := 0) (by decide +kernel) rfl (by decide) ?_
    refine hr_gr (w := 194) (b := 12) (e := 6) 192 rfl (by decide +kernel) ?_
    refine hw_k (c := 2) (b := 0) (e := 1) (by decide +kernel) ?_
    refine hr_al (b := 0) (a0 := 0) (e := 0) (n := 361) (w := φ 194 2) 194 rfl (by decide +kernel) (by decide) (by decide) (by decide) (hf_up_ne (fun q => absurd q.1 (by decide))) ?_
    refine hw_k (c := 1) (b := 0) (e := 1) (by decide +kernel) ?_
    refine hw_bin (w := (φ 194 2) - 1) (a0 := 0) (b := 1) (e := 0) (by decide +kernel) rfl ?_
    refine hr_calls (b := 188) (e := 3) (nl := 3) (As := [(0, v2), (0, 0), (0, (φ 194 2) - 1)]) (R := []) (by decide +kernel) rfl rfl (Nat.le_of_ble_eq_true rfl) (Nat.le_of_ble_eq_true rfl) ?_
    refine hw_mono H ?_
    rintro r ψ4 y4 ⟨hyx, hψx, z4, hr, H⟩
    subst hyx
    subst hψx
    subst hr
    refine ⟨hne0, ?_⟩
    show hw sc (d + 2) 218 26 [(0, (2, 192)), (1, (0, v1)), (2, (0, v2))] [(0, z4)] (hf_up φ 192 0 0) y4 Q
    obtain ⟨hz5, ht5, hf5⟩ := H
    refine hw_if (a0 := 0) (b := 1) (e := 31) (by decide +kernel) hz5 (fun q => ?_) (fun q => ?_)
    · have H := ht5 q
      refine hw_ald (b := 0) (e := 0) (by decide +kernel) rfl (by decide) ?_
      refine hw_ld (b := 1) (e := 0) (by decide +kernel) rfl ?_
      refine hr_call (a0 := 22) (b := 219) (e := 2) (nl := 2) (As := [(0, v1)]) (R := []) 192 rfl (by decide +kernel) rfl rfl (Nat.le_of_ble_eq_true rfl) (Nat.le_of_ble_eq_true rfl) ?_
      refine hw_mono H ?_
      rintro r ψ6 y6 ⟨hyx, hψx, z6, hr, H⟩
      subst hyx
      subst hψx
      subst hr
      refine ⟨hne0, ?_⟩
      show hw sc (d + 2) 218 36 [(0, (2, 192)), (1, (0, v1)), (2, (0, v2))] [(0, z6)] (hf_up φ 192 0 0) y6 Q
      obtain ⟨hz7, ht7, hf7⟩ := H
      refine hw_if (a0 := 0) (b := 5) (e := 41) (by decide +kernel) hz7 (fun q => ?_) (fun q => ?_)
      · have H := ht7 q
        refine hw_ald (b := 0) (e := 0) (by decide +kernel) rfl (by decide) ?_
        refine hr_call (a0 := 22) (b := 216) (e := 1) (nl := 2) (As := []) (R := []) 192 rfl (by decide +kernel) rfl rfl (Nat.le_of_ble_eq_true rfl) (Nat.le_of_ble_eq_true rfl) ?_
        refine hw_mono H ?_
        rintro r ψ8 y8 ⟨hyx, hr, H⟩
        subst hyx
        subst hr
        refine ⟨hnen, ?_⟩
        show hw sc (d + 2) 218 45 [(0, (2, 192)), (1, (0, v1)), (2, (0, v2))] [] ψ8 y8 Q
        refine hw_ald (b := 0) (e := 0) (by decide +kernel) rfl (by decide) ?_
        refine hw_ld (b := 1) (e := 0) (by decide +kernel) rfl ?_
        refine hw_ld (b := 2) (e := 0) (by decide +kernel) rfl ?_
        refine hr_call (a0 := 22) (b := 220) (e := 3) (nl := 3) (As := [(0, v1), (0, v2)]) (R := []) 192 rfl (by decide +kernel) rfl rfl (Nat.le_of_ble_eq_true rfl) (Nat.le_of_ble_eq_true rfl) ?_
        refine hw_mono H ?_
        rintro r ψ9 y9 ⟨hyx, hr, H⟩
        subst hyx
        subst hr
        refine ⟨hnen, ?_⟩
        show hw sc (d + 2) 218 51 [(0, (2, 192)), (1, (0, v1)), (2, (0, v2))] [] ψ9 y9 Q
        refine hw_k (c := 0) (b := 0) (e := 1) (by decide +kernel) ?_
        exact hw_ret (a0 := 0) (e := 0) (by decide +kernel) (Or.inl rfl) H
      · have H := hf7 q
        refine hw_k (c := 1) (b := 0) (e := 1) (by decide +kernel) ?_
        exact hw_ret (a0 := 0) (e := 0) (by decide +kernel) (Or.inl rfl) H
    · have H := hf5 q
      refine hw_k (c := (-1 : Int)) (b := 0) (e := 1) (by decide +kernel) ?_
      exact hw_ret (a0 := 0) (e := 0) (by decide +kernel) (Or.inl rfl) H
theorem sf_218_192 {sc : List Int} {d : Nat} {φ : hf_F} {x : Nat} {Q : Option jm_V → hf_F → Nat → Prop} {v1 v2 : Int} (hI : Inv φ) (h1a : (-2147483648 : Int) ≤ v1) (h1b : v1 ≤ 2147483647) (h2a : (-2147483648 : Int) ≤ v2) (h2b : v2 ≤ 2147483647) (hQ : ∀ (r : Int) (ψ : hf_F), Inv ψ → Fr [194, 199, 193000, 193022] φ ψ → True → F_RideLawsModel_learn_192 φ v1 v2 = (r, ψ) → Q (some (0, r)) ψ x) : hw sc (d + 2) 218 0 [(0, (2, 192)), (1, (0, v1)), (2, (0, v2))] [] φ x Q := by
  apply sf_218_192_v
  have e0 : F_RideLawsModel_learn_192 φ v1 v2 = _ := rfl
  have i1 : Inv (hf_up φ 192 0 0) := iv_up (lo := 0) (u := 1) hI (by decide +kernel) (by omega) (by omega)
  have r1 : Fr [194, 199, 193000, 193022] φ (hf_up φ 192 0 0) := fr_up (fr_rf) (by decide)
  refine sf_202_192 (φ := (hf_up φ 192 0 0)) i1 (by omega) (by omega) (fun z1 hp1 hE1 => ⟨rfl, rfl, z1, rfl, ?_⟩)
  have e1 := e0.trans (bnp_e hE1)
  have f2 : (hf_up φ 192 0 0) 194 3 = φ 194 3 := (hf_up_ne (fun q => absurd q.1 (by decide)))
  have f3 := iv_at (a := 194) (k := 3) (lo := 0) (u := 6) hI (by decide +kernel)
  refine ⟨by unfold hi; omega, fun q2 => ?_, fun q2 => ?_⟩
  · skip
    have e2a := e1.trans (if_pos q2)
    exact hQ (-1 : Int) (hf_up φ 192 0 0) i1 r1 trivial e2a
  · skip
    have e2b := e1.trans (if_neg q2)
    have f4 := iv_at (a := 194) (k := 2) (lo := 0) (u := 8) hI (by decide +kernel)
    refine sf_188 (φ := (hf_up φ 192 0 0)) i1 (by omega) (by omega) (by omega) (by omega) (by omega) (by omega) (fun z4 hp4 hE4 => ⟨rfl, rfl, z4, rfl, ?_⟩)
    have e4 := e2b.trans (bnp_e hE4)
    have f5 : (hf_up φ 192 0 0) 194 2 = φ 194 2 := (hf_up_ne (fun q => absurd q.1 (by decide)))
    refine ⟨by unfold hi; omega, fun q5 => ?_, fun q5 => ?_⟩
    · skip
      have e5a := e4.trans (if_pos q5)
      refine sf_219_192 (φ := (hf_up φ 192 0 0)) i1 (by omega) (by omega) (fun z6 hp6 hE6 => ⟨rfl, rfl, z6, rfl, ?_⟩)
      have e6 := e5a.trans (bnp_e hE6)
      have f6 : (hf_up φ 192 0 0) 194 ((118 + v1).toNat) = φ 194 ((118 + v1).toNat) := (hf_up_ne (fun q => absurd q.1 (by decide)))
      have f7 := iv_ar (a := 194) (s := 118) (t := 124) (lo := 0) (u := 6) (z := 118 + v1) hI (by decide +kernel) (by omega) (by omega)
      refine ⟨by unfold hi; omega, fun q7 => ?_, fun q7 => ?_⟩
      · skip
        have e7a := e6.trans (if_pos q7)
        refine sf_216_192 (φ := (hf_up φ 192 0 0)) i1  (fun ψ8 hI8 hF8 hV8 hE8 => ⟨rfl, rfl, ?_⟩)
        have hG8 : Fr [194, 199, 193000, 193022] φ ψ8 := fr_tr r1 hF8 (by decide)
        have f8 := iv_at (a := 192) (k := 22) (lo := 0) (u := 8) hI8 (by decide +kernel)
        have e8 := e7a.trans (bnv_e hE8)
        have f9 := iv_ar (a := 194) (s := 118) (t := 124) (lo := 0) (u := 6) (z := 118 + v1) hI8 (by decide +kernel) (by omega) (by omega)
        have f10 : ψ8 194 ((118 + v1).toNat) = φ 194 ((118 + v1).toNat) := (fr_at hF8 194 (by decide) ((118 + v1).toNat)).trans (hf_up_ne (fun q => absurd q.1 (by decide)))
        refine sf_220_192 (φ := ψ8) hI8 (by omega) (by omega) (by omega) (by omega) (by omega) (fun ψ9 hI9 hF9 hE9 => ⟨rfl, rfl, ?_⟩)
        have hG9 : Fr [194, 199, 193000, 193022] φ ψ9 := fr_tr hG8 hF9 (by decide)
        have e9 := e8.trans (bnv_e hE9)
        exact hQ 0 ψ9 hI9 hG9 trivial e9
      · skip
        have e7b := e6.trans (if_neg q7)
        exact hQ 1 (hf_up φ 192 0 0) i1 r1 trivial e7b
    · skip
      have e5b := e4.trans (if_neg q5)
      exact hQ (-1 : Int) (hf_up φ 192 0 0) i1 r1 trivial e5b
theorem sf_221_192_v {sc : List Int} {d : Nat} {φ : hf_F} {x : Nat} {Q : Option jm_V → hf_F → Nat → Prop} 
    (H : hw sc d 222 0 [(0, (2, 192))] [] (hf_up φ 192 0 0) x (fun r ψ1 y1 => y1 = x ∧ (hf_up φ 192 0 0) = ψ1 ∧ (∃ z1 : Int, r = some (0, z1) ∧ (hi z1 ∧ (z1 ≤ 0 → hw sc d 216 0 [(0, (2, 192))] [] (hf_up φ 192 0 0) x (fun r ψ3 y3 => y3 = x ∧ (r = none ∧ (hw sc d 223 0 [(0, (2, 192))] [] ψ3 x (fun r ψ4 y4 => y4 = x ∧ (r = none ∧ (Q (some (0, 0)) ψ4 x))))))) ∧ (¬ z1 ≤ 0 → Q (some (0, 1)) (hf_up φ 192 0 0) x))))) :
    hw sc (d + 1) 221 0 [(0, (2, 192))] [] φ x Q := by
  refine hw_ald (b := 0) (e := 0) (by decide +kernel) rfl (by decide) ?_
  refine hw_k (c := 0) (b := 0) (e := 1) (by decide +kernel) ?_
  refine hr_pi (b := 12) (e := 0) 192 rfl (by decide +kernel) ?_
  refine hw_ald (b := 0) (e := 0) (by decide +kernel) rfl (by decide) ?_
  refine hr_call (a0 := 22) (b := 222) (e := 1) (nl := 1) (As := []) (R := []) 192 rfl (by decide +kernel) rfl rfl (Nat.le_of_ble_eq_true rfl) (Nat.le_of_ble_eq_true rfl) ?_
  refine hw_mono H ?_
  rintro r ψ1 y1 ⟨hyx, hψx, z1, hr, H⟩
  subst hyx
  subst hψx
  subst hr
  refine ⟨hne0, ?_⟩
  show hw sc (d + 1) 221 9 [(0, (2, 192))] [(0, z1)] (hf_up φ 192 0 0) y1 Q
  obtain ⟨hz2, ht2, hf2⟩ := H
  refine hw_if (a0 := 0) (b := 5) (e := 14) (by decide +kernel) hz2 (fun q => ?_) (fun q => ?_)
  · have H := ht2 q
    refine hw_ald (b := 0) (e := 0) (by decide +kernel) rfl (by decide) ?_
    refine hr_call (a0 := 22) (b := 216) (e := 1) (nl := 2) (As := []) (R := []) 192 rfl (by decide +kernel) rfl rfl (Nat.le_of_ble_eq_true rfl) (Nat.le_of_ble_eq_true rfl) ?_
    refine hw_mono H ?_
    rintro r ψ3 y3 ⟨hyx, hr, H⟩
    subst hyx
    subst hr
    refine ⟨hnen, ?_⟩
    show hw sc (d + 1) 221 18 [(0, (2, 192))] [] ψ3 y3 Q
    refine hw_ald (b := 0) (e := 0) (by decide +kernel) rfl (by decide) ?_
    refine hr_call (a0 := 22) (b := 223) (e := 1) (nl := 2) (As := []) (R := []) 192 rfl (by decide +kernel) rfl rfl (Nat.le_of_ble_eq_true rfl) (Nat.le_of_ble_eq_true rfl) ?_
    refine hw_mono H ?_
    rintro r ψ4 y4 ⟨hyx, hr, H⟩
    subst hyx
    subst hr
    refine ⟨hnen, ?_⟩
    show hw sc (d + 1) 221 22 [(0, (2, 192))] [] ψ4 y4 Q
    refine hw_k (c := 0) (b := 0) (e := 1) (by decide +kernel) ?_
    exact hw_ret (a0 := 0) (e := 0) (by decide +kernel) (Or.inl rfl) H
  · have H := hf2 q
    refine hw_k (c := 1) (b := 0) (e := 1) (by decide +kernel) ?_
    exact hw_ret (a0 := 0) (e := 0) (by decide +kernel) (Or.inl rfl) H
theorem sf_221_192 {sc : List Int} {d : Nat} {φ : hf_F} {x : Nat} {Q : Option jm_V → hf_F → Nat → Prop}  (hI : Inv φ)  (hQ : ∀ (r : Int) (ψ : hf_F), Inv ψ → Fr [194, 199, 193000, 193022] φ ψ → True → F_RideLawsModel_whistle_192 φ = (r, ψ) → Q (some (0, r)) ψ x) : hw sc (d + 1) 221 0 [(0, (2, 192))] [] φ x Q := by
  apply sf_221_192_v
  have e0 : F_RideLawsModel_whistle_192 φ = _ := rfl
  have i1 : Inv (hf_up φ 192 0 0) := iv_up (lo := 0) (u := 1) hI (by decide +kernel) (by omega) (by omega)
  have r1 : Fr [194, 199, 193000, 193022] φ (hf_up φ 192 0 0) := fr_up (fr_rf) (by decide)
  refine sf_222_192 (φ := (hf_up φ 192 0 0)) i1  (fun z1 hp1 hE1 => ⟨rfl, rfl, z1, rfl, ?_⟩)
  have e1 := e0.trans (bnp_e hE1)
  refine ⟨by unfold hi; omega, fun q2 => ?_, fun q2 => ?_⟩
  · skip
    have e2a := e1.trans (if_pos q2)
    refine sf_216_192 (φ := (hf_up φ 192 0 0)) i1  (fun ψ3 hI3 hF3 hV3 hE3 => ⟨rfl, rfl, ?_⟩)
    have hG3 : Fr [194, 199, 193000, 193022] φ ψ3 := fr_tr r1 hF3 (by decide)
    have f2 := iv_at (a := 192) (k := 22) (lo := 0) (u := 8) hI3 (by decide +kernel)
    have e3 := e2a.trans (bnv_e hE3)
    refine sf_223_192 (φ := ψ3) hI3  (fun ψ4 hI4 hF4 hE4 => ⟨rfl, rfl, ?_⟩)
    have hG4 : Fr [194, 199, 193000, 193022] φ ψ4 := fr_tr hG3 hF4 (by decide)
    have e4 := e3.trans (bnv_e hE4)
    exact hQ 0 ψ4 hI4 hG4 trivial e4
  · skip
    have e2b := e1.trans (if_neg q2)
    exact hQ 1 (hf_up φ 192 0 0) i1 r1 trivial e2b
theorem sf_227_192_v8 {sc : List Int} {d : Nat} {φ : hf_F} {x : Nat} {Q : Option jm_V → hf_F → Nat → Prop} {L : jm_L} {l1 l2 l3 : Int} (g0 : jm_get L 0 = some (2, 192)) (g1 : jm_get L 1 = some (0, l1)) (g2 : jm_get L 2 = some (0, l2)) (g3 : jm_get L 3 = some (0, l3))
    (H : hi l3 ∧ hi (φ 194 4) ∧ ((φ 194 4) ≤ l3 → 0 ≤ (166 + l1) ∧ (166 + l1) < 361 ∧ (0 ≤ (166 + l1) ∧ (166 + l1) < 361 ∧ (0 ≤ (160 + l1) ∧ (160 + l1) < 361 ∧ (0 ≤ (118 + l1) ∧ (118 + l1) < 361 ∧ (hi (((hf_up (hf_up (hf_up φ 194 100 (l2 + 1)) 194 101 (l1 + 1)) 194 ((166 + l1).toNat) (((hf_up (hf_up φ 194 100 (l2 + 1)) 194 101 (l1 + 1)) 194 ((166 + l1).toNat)) + 1)) 194 ((160 + l1).toNat)) + 1) ∧ hi ((hf_up (hf_up (hf_up φ 194 100 (l2 + 1)) 194 101 (l1 + 1)) 194 ((166 + l1).toNat) (((hf_up (hf_up φ 194 100 (l2 + 1)) 194 101 (l1 + 1)) 194 ((166 + l1).toNat)) + 1)) 194 ((118 + l1).toNat)) ∧ ¬ ((hf_up (hf_up (hf_up φ 194 100 (l2 + 1)) 194 101 (l1 + 1)) 194 ((166 + l1).toNat) (((hf_up (hf_up φ 194 100 (l2 + 1)) 194 101 (l1 + 1)) 194 ((166 + l1).toNat)) + 1)) 194 ((118 + l1).toNat)) = 0 ∧ (0 ≤ (160 + l1) ∧ (160 + l1) < 361 ∧ (Q none (hf_up (hf_up (hf_up (hf_up φ 194 100 (l2 + 1)) 194 101 (l1 + 1)) 194 ((166 + l1).toNat) (((hf_up (hf_up φ 194 100 (l2 + 1)) 194 101 (l1 + 1)) 194 ((166 + l1).toNat)) + 1)) 194 ((160 + l1).toNat) ((((hf_up (hf_up (hf_up φ 194 100 (l2 + 1)) 194 101 (l1 + 1)) 194 ((166 + l1).toNat) (((hf_up (hf_up φ 194 100 (l2 + 1)) 194 101 (l1 + 1)) 194 ((166 + l1).toNat)) + 1)) 194 ((160 + l1).toNat)) + 1).tmod ((hf_up (hf_up (hf_up φ 194 100 (l2 + 1)) 194 101 (l1 + 1)) 194 ((166 + l1).toNat) (((hf_up (hf_up φ 194 100 (l2 + 1)) 194 101 (l1 + 1)) 194 ((166 + l1).toNat)) + 1)) 194 ((118 + l1).toNat)))) x))))))) ∧ (¬ (φ 194 4) ≤ l3 → 0 ≤ (75 + l3) ∧ (75 + l3) < 361 ∧ (hi (φ 194 100) ∧ hi ((φ 194 ((75 + l3).toNat)) + 1) ∧ (¬ (φ 194 100) = ((φ 194 ((75 + l3).toNat)) + 1) → hw sc (d + 1) 227 8 (jm_st1 L 3 (0, l3 + 1)) [] φ x Q) ∧ (¬ (¬ (φ 194 100) = ((φ 194 ((75 + l3).toNat)) + 1)) → 0 ≤ (83 + l3) ∧ (83 + l3) < 361 ∧ (hi (φ 194 ((83 + l3).toNat)) ∧ hi l2 ∧ ((φ 194 ((83 + l3).toNat)) = l2 → 0 ≤ (91 + l3) ∧ (91 + l3) < 361 ∧ (0 ≤ (172 + l3) ∧ (172 + l3) < 361 ∧ (0 ≤ (172 + l3) ∧ (172 + l3) < 361 ∧ (hw sc (d + 1) 227 8 (jm_st1 L 3 (0, l3 + 1)) [] (hf_up (hf_up φ 194 102 (hb_and (hb_or (φ 194 102) (hb_shl 1 l3)) (hb_xor (φ 194 ((91 + l3).toNat)) (-1 : Int)))) 194 ((172 + l3).toNat) (((hf_up φ 194 102 (hb_and (hb_or (φ 194 102) (hb_shl 1 l3)) (hb_xor (φ 194 ((91 + l3).toNat)) (-1 : Int)))) 194 ((172 + l3).toNat)) + 1)) x Q)))) ∧ (¬ (φ 194 ((83 + l3).toNat)) = l2 → hw sc (d + 1) 227 8 (jm_st1 L 3 (0, l3 + 1)) [] φ x Q)))))) :
    hw sc (d + 1) 227 8 L [] φ x Q := by
  refine hw_ld (b := 3) (e := 0) (by decide +kernel) g3 ?_
  refine hw_ald (b := 0) (e := 0) (by decide +kernel) g0 (by decide) ?_
  refine hr_gr (w := 194) (b := 12) (e := 6) 192 rfl (by decide +kernel) ?_
  refine hw_k (c := 4) (b := 0) (e := 1) (by decide +kernel) ?_
  refine hr_al (b := 0) (a0 := 0) (e := 0) (n := 361) (w := φ 194 4) 194 rfl (by decide +kernel) (by decide) (by decide) (by decide) rfl ?_
  obtain ⟨hz1, hy1, ht1, hf1⟩ := H
  refine hw_if2 (a0 := 0) (b := 3) (e := 105) (by decide +kernel) hz1 hy1 (fun q => ?_) (fun q => ?_)
  · have H := ht1 q
    refine hw_ald (b := 0) (e := 0) (by decide +kernel) g0 (by decide) ?_
    refine hr_gr (w := 194) (b := 12) (e := 6) 192 rfl (by decide +kernel) ?_
    refine hw_k (c := 100) (b := 1) (e := 2) (by decide +kernel) ?_
    refine hw_ld (b := 2) (e := 0) (by decide +kernel) g2 ?_
    refine hw_k (c := 1) (b := 0) (e := 1) (by decide +kernel) ?_
    refine hw_bin (w := l2 + 1) (a0 := 0) (b := 0) (e := 0) (by decide +kernel) rfl ?_
    refine hr_as (a0 := 0) (e := 4) (n := 361) 194 rfl (by decide +kernel) (by decide) (by decide) ?_
    refine hw_ald (b := 0) (e := 0) (by decide +kernel) g0 (by decide) ?_
    refine hr_gr (w := 194) (b := 12) (e := 6) 192 rfl (by decide +kernel) ?_
    refine hw_k (c := 101) (b := 1) (e := 2) (by decide +kernel) ?_
    refine hw_ld (b := 1) (e := 0) (by decide +kernel) g1 ?_
    refine hw_k (c := 1) (b := 0) (e := 1) (by decide +kernel) ?_
    refine hw_bin (w := l1 + 1) (a0 := 0) (b := 0) (e := 0) (by decide +kernel) rfl ?_
    refine hr_as (a0 := 0) (e := 4) (n := 361) 194 rfl (by decide +kernel) (by decide) (by decide) ?_
    refine hw_ald (b := 0) (e := 0) (by decide +kernel) g0 (by decide) ?_
    refine hr_gr (w := 194) (b := 12) (e := 6) 192 rfl (by decide +kernel) ?_
    refine hw_k (c := 166) (b := 2) (e := 3) (by decide +kernel) ?_
    refine hw_ld (b := 1) (e := 0) (by decide +kernel) g1 ?_
    refine hw_bin (w := 166 + l1) (a0 := 0) (b := 0) (e := 0) (by decide +kernel) rfl ?_
    refine hw_dup2 (a0 := 0) (e := 0) (by decide +kernel) (by decide) (by decide) ?_
    obtain ⟨hl2, hu2, H⟩ := H
    refine hr_al (b := 0) (a0 := 0) (e := 0) (n := 361) (w := (hf_up (hf_up φ 194 100 (l2 + 1)) 194 101 (l1 + 1)) 194 ((166 + l1).toNat)) 194 rfl (by decide +kernel) (by decide) hl2 hu2 rfl ?_
    refine hw_k (c := 1) (b := 0) (e := 1) (by decide +kernel) ?_
    refine hw_bin (w := ((hf_up (hf_up φ 194 100 (l2 + 1)) 194 101 (l1 + 1)) 194 ((166 + l1).toNat)) + 1) (a0 := 0) (b := 0) (e := 0) (by decide +kernel) rfl ?_
    obtain ⟨hl3, hu3, H⟩ := H
    refine hr_as (a0 := 0) (e := 4) (n := 361) 194 rfl (by decide +kernel) hl3 hu3 ?_
    refine hw_ald (b := 0) (e := 0) (by decide +kernel) g0 (by decide) ?_
    refine hr_gr (w := 194) (b := 12) (e := 6) 192 rfl (by decide +kernel) ?_
    refine hw_k (c := 160) (b := 2) (e := 3) (by decide +kernel) ?_
    refine hw_ld (b := 1) (e := 0) (by decide +kernel) g1 ?_
    refine hw_bin (w := 160 + l1) (a0 := 0) (b := 0) (e := 0) (by decide +kernel) rfl ?_
    refine hw_ald (b := 0) (e := 0) (by decide +kernel) g0 (by decide) ?_
    refine hr_gr (w := 194) (b := 12) (e := 6) 192 rfl (by decide +kernel) ?_
    refine hw_k (c := 160) (b := 2) (e := 3) (by decide +kernel) ?_
    refine hw_ld (b := 1) (e := 0) (by decide +kernel) g1 ?_
    refine hw_bin (w := 160 + l1) (a0 := 0) (b := 0) (e := 0) (by decide +kernel) rfl ?_
    obtain ⟨hl4, hu4, H⟩ := H
    refine hr_al (b := 0) (a0 := 0) (e := 0) (n := 361) (w := (hf_up (hf_up (hf_up φ 194 100 (l2 + 1)) 194 101 (l1 + 1)) 194 ((166 + l1).toNat) (((hf_up (hf_up φ 194 100 (l2 + 1)) 194 101 (l1 + 1)) 194 ((166 + l1).toNat)) + 1)) 194 ((160 + l1).toNat)) 194 rfl (by decide +kernel) (by decide) hl4 hu4 rfl ?_
    refine hw_k (c := 1) (b := 0) (e := 1) (by decide +kernel) ?_
    refine hw_bin (w := ((hf_up (hf_up (hf_up φ 194 100 (l2 + 1)) 194 101 (l1 + 1)) 194 ((166 + l1).toNat) (((hf_up (hf_up φ 194 100 (l2 + 1)) 194 101 (l1 + 1)) 194 ((166 + l1).toNat)) + 1)) 194 ((160 + l1).toNat)) + 1) (a0 := 0) (b := 0) (e := 0) (by decide +kernel) rfl ?_
    refine hw_ald (b := 0) (e := 0) (by decide +kernel) g0 (by decide) ?_
    refine hr_gr (w := 194) (b := 12) (e := 6) 192 rfl (by decide +kernel) ?_
    refine hw_k (c := 118) (b := 1) (e := 2) (by decide +kernel) ?_
    refine hw_ld (b := 1) (e := 0) (by decide +kernel) g1 ?_
    refine hw_bin (w := 118 + l1) (a0 := 0) (b := 0) (e := 0) (by decide +kernel) rfl ?_
    obtain ⟨hl5, hu5, H⟩ := H
    refine hr_al (b := 0) (a0 := 0) (e := 0) (n := 361) (w := (hf_up (hf_up (hf_up φ 194 100 (l2 + 1)) 194 101 (l1 + 1)) 194 ((166 + l1).toNat) (((hf_up (hf_up φ 194 100 (l2 + 1)) 194 101 (l1 + 1)) 194 ((166 + l1).toNat)) + 1)) 194 ((118 + l1).toNat)) 194 rfl (by decide +kernel) (by decide) hl5 hu5 rfl ?_
    obtain ⟨hz6, hy6, hn6, H⟩ := H
    refine hw_bin (w := (((hf_up (hf_up (hf_up φ 194 100 (l2 + 1)) 194 101 (l1 + 1)) 194 ((166 + l1).toNat) (((hf_up (hf_up φ 194 100 (l2 + 1)) 194 101 (l1 + 1)) 194 ((166 + l1).toNat)) + 1)) 194 ((160 + l1).toNat)) + 1).tmod ((hf_up (hf_up (hf_up φ 194 100 (l2 + 1)) 194 101 (l1 + 1)) 194 ((166 + l1).toNat) (((hf_up (hf_up φ 194 100 (l2 + 1)) 194 101 (l1 + 1)) 194 ((166 + l1).toNat)) + 1)) 194 ((118 + l1).toNat))) (a0 := 0) (b := 10) (e := 0) (by decide +kernel) (hb_rem hz6 hy6 hn6) ?_
    obtain ⟨hl7, hu7, H⟩ := H
    refine hr_as (a0 := 0) (e := 4) (n := 361) 194 rfl (by decide +kernel) hl7 hu7 ?_
    exact hw_vret (a0 := 0) (e := 0) (by decide +kernel) H
  · have H := hf1 q
    refine hw_ald (b := 0) (e := 0) (by decide +kernel) g0 (by decide) ?_
    refine hr_gr (w := 194) (b := 12) (e := 6) 192 rfl (by decide +kernel) ?_
    refine hw_k (c := 100) (b := 1) (e := 2) (by decide +kernel) ?_
    refine hr_al (b := 0) (a0 := 0) (e := 0) (n := 361) (w := φ 194 100) 194 rfl (by decide +kernel) (by decide) (by decide) (by decide) rfl ?_
    refine hw_ald (b := 0) (e := 0) (by decide +kernel) g0 (by decide) ?_
    refine hr_gr (w := 194) (b := 12) (e := 6) 192 rfl (by decide +kernel) ?_
    refine hw_k (c := 75) (b := 1) (e := 2) (by decide +kernel) ?_
    refine hw_ld (b := 3) (e := 0) (by decide +kernel) g3 ?_
    refine hw_bin (w := 75 + l3) (a0 := 0) (b := 0) (e := 0) (by decide +kernel) rfl ?_
    obtain ⟨hl9, hu9, H⟩ := H
    refine hr_al (b := 0) (a0 := 0) (e := 0) (n := 361) (w := φ 194 ((75 + l3).toNat)) 194 rfl (by decide +kernel) (by decide) hl9 hu9 rfl ?_
    refine hw_k (c := 1) (b := 0) (e := 1) (by decide +kernel) ?_
    refine hw_bin (w := (φ 194 ((75 + l3).toNat)) + 1) (a0 := 0) (b := 0) (e := 0) (by decide +kernel) rfl ?_
    obtain ⟨hz10, hy10, ht10, hf10⟩ := H
    refine hw_if2 (a0 := 0) (b := 1) (e := 99) (by decide +kernel) hz10 hy10 (fun q => ?_) (fun q => ?_)
    · have H := ht10 q
      refine hw_inc (L' := (jm_st1 L 3 (0, l3 + 1))) (c := 1) (b := 3) (e := 0) (by decide +kernel) g3 rfl ?_
      refine hw_goto (a0 := 0) (b := 0) (e := 8) (by decide +kernel) ?_
      exact H
    · have H := hf10 q
      refine hw_ald (b := 0) (e := 0) (by decide +kernel) g0 (by decide) ?_
      refine hr_gr (w := 194) (b := 12) (e := 6) 192 rfl (by decide +kernel) ?_
      refine hw_k (c := 83) (b := 1) (e := 2) (by decide +kernel) ?_
      refine hw_ld (b := 3) (e := 0) (by decide +kernel) g3 ?_
      refine hw_bin (w := 83 + l3) (a0 := 0) (b := 0) (e := 0) (by decide +kernel) rfl ?_
      obtain ⟨hl11, hu11, H⟩ := H
      refine hr_al (b := 0) (a0 := 0) (e := 0) (n := 361) (w := φ 194 ((83 + l3).toNat)) 194 rfl (by decide +kernel) (by decide) hl11 hu11 rfl ?_
      refine hw_ld (b := 2) (e := 0) (by decide +kernel) g2 ?_
      obtain ⟨hz12, hy12, ht12, hf12⟩ := H
      refine hw_if2 (a0 := 0) (b := 0) (e := 55) (by decide +kernel) hz12 hy12 (fun q => ?_) (fun q => ?_)
      · have H := ht12 q
        refine hw_ald (b := 0) (e := 0) (by decide +kernel) g0 (by decide) ?_
        refine hr_gr (w := 194) (b := 12) (e := 6) 192 rfl (by decide +kernel) ?_
        refine hw_k (c := 102) (b := 1) (e := 2) (by decide +kernel) ?_
        refine hw_ald (b := 0) (e := 0) (by decide +kernel) g0 (by decide) ?_
        refine hr_gr (w := 194) (b := 12) (e := 6) 192 rfl (by decide +kernel) ?_
        refine hw_k (c := 102) (b := 1) (e := 2) (by decide +kernel) ?_
        refine hr_al (b := 0) (a0 := 0) (e := 0) (n := 361) (w := φ 194 102) 194 rfl (by decide +kernel) (by decide) (by decide) (by decide) rfl ?_
        refine hw_k (c := 1) (b := 0) (e := 1) (by decide +kernel) ?_
        refine hw_ld (b := 3) (e := 0) (by decide +kernel) g3 ?_
        refine hw_bin (w := hb_shl 1 l3) (a0 := 0) (b := 6) (e := 0) (by decide +kernel) rfl ?_
        refine hw_bin (w := hb_or (φ 194 102) (hb_shl 1 l3)) (a0 := 0) (b := 4) (e := 0) (by decide +kernel) rfl ?_
        refine hw_ald (b := 0) (e := 0) (by decide +kernel) g0 (by decide) ?_
        refine hr_gr (w := 194) (b := 12) (e := 6) 192 rfl (by decide +kernel) ?_
        refine hw_k (c := 91) (b := 1) (e := 2) (by decide +kernel) ?_
        refine hw_ld (b := 3) (e := 0) (by decide +kernel) g3 ?_
        refine hw_bin (w := 91 + l3) (a0 := 0) (b := 0) (e := 0) (by decide +kernel) rfl ?_
        obtain ⟨hl13, hu13, H⟩ := H
        refine hr_al (b := 0) (a0 := 0) (e := 0) (n := 361) (w := φ 194 ((91 + l3).toNat)) 194 rfl (by decide +kernel) (by decide) hl13 hu13 rfl ?_
        refine hw_k (c := (-1 : Int)) (b := 0) (e := 1) (by decide +kernel) ?_
        refine hw_bin (w := hb_xor (φ 194 ((91 + l3).toNat)) (-1 : Int)) (a0 := 0) (b := 5) (e := 0) (by decide +kernel) rfl ?_
        refine hw_bin (w := hb_and (hb_or (φ 194 102) (hb_shl 1 l3)) (hb_xor (φ 194 ((91 + l3).toNat)) (-1 : Int))) (a0 := 0) (b := 3) (e := 0) (by decide +kernel) rfl ?_
        refine hr_as (a0 := 0) (e := 4) (n := 361) 194 rfl (by decide +kernel) (by decide) (by decide) ?_
        refine hw_ald (b := 0) (e := 0) (by decide +kernel) g0 (by decide) ?_
        refine hr_gr (w := 194) (b := 12) (e := 6) 192 rfl (by decide +kernel) ?_
        refine hw_k (c := 172) (b := 2) (e := 3) (by decide +kernel) ?_
        refine hw_ld (b := 3) (e := 0) (by decide +kernel) g3 ?_
        refine hw_bin (w := 172 + l3) (a0 := 0) (b := 0) (e := 0) (by decide +kernel) rfl ?_
        refine hw_dup2 (a0 := 0) (e := 0) (by decide +kernel) (by decide) (by decide) ?_
        obtain ⟨hl14, hu14, H⟩ := H
        refine hr_al (b := 0) (a0 := 0) (e := 0) (n := 361) (w := (hf_up φ 194 102 (hb_and (hb_or (φ 194 102) (hb_shl 1 l3)) (hb_xor (φ 194 ((91 + l3).toNat)) (-1 : Int)))) 194 ((172 + l3).toNat)) 194 rfl (by decide +kernel) (by decide) hl14 hu14 rfl ?_
        refine hw_k (c := 1) (b := 0) (e := 1) (by decide +kernel) ?_
        refine hw_bin (w := ((hf_up φ 194 102 (hb_and (hb_or (φ 194 102) (hb_shl 1 l3)) (hb_xor (φ 194 ((91 + l3).toNat)) (-1 : Int)))) 194 ((172 + l3).toNat)) + 1) (a0 := 0) (b := 0) (e := 0) (by decide +kernel) rfl ?_
        obtain ⟨hl15, hu15, H⟩ := H
        refine hr_as (a0 := 0) (e := 4) (n := 361) 194 rfl (by decide +kernel) hl15 hu15 ?_
        refine hw_inc (L' := (jm_st1 L 3 (0, l3 + 1))) (c := 1) (b := 3) (e := 0) (by decide +kernel) g3 rfl ?_
        refine hw_goto (a0 := 0) (b := 0) (e := 8) (by decide +kernel) ?_
        exact H
      · have H := hf12 q
        refine hw_goto (a0 := 0) (b := 0) (e := 99) (by decide +kernel) ?_
        refine hw_inc (L' := (jm_st1 L 3 (0, l3 + 1))) (c := 1) (b := 3) (e := 0) (by decide +kernel) g3 rfl ?_
        refine hw_goto (a0 := 0) (b := 0) (e := 8) (by decide +kernel) ?_
        exact H
theorem sf_227_192_l8 {sc : List Int} {d x : Nat} {Q : Option jm_V → hf_F → Nat → Prop} : ∀ (n : Nat) (φ : hf_F) (L : jm_L) (l1 l2 l3 : Int), jm_get L 0 = some (2, 192) → jm_get L 1 = some (0, l1) → jm_get L 2 = some (0, l2) → jm_get L 3 = some (0, l3) → Inv φ → 8 - l3 < (n : Int) → 0 ≤ l1 → l1 ≤ 5 → (-1 : Int) ≤ l2 → l2 ≤ 7 → 0 ≤ l3 → l3 ≤ 8 → 1 ≤ φ 194 (118 + l1).toNat → (∀ ψ : hf_F, Inv ψ → Fr [194] φ ψ → F_RideLawsModel_saysOne_192_l8 n φ l1 l2 l3 = ψ → Q none ψ x) → hw sc (d + 1) 227 8 L [] φ x Q := by
  intro n
  induction n with
  | zero =>
    intro φ L l1 l2 l3 g0 g1 g2 g3 hI hM b1a b1b b2a b2b b3a b3b c0 hQ
    exfalso
    omega
  | succ n ih =>
    intro φ L l1 l2 l3 g0 g1 g2 g3 hI hM b1a b1b b2a b2b b3a b3b c0 hQ
    refine sf_227_192_v8 g0 g1 g2 g3 ?_
    have e0 := F_RideLawsModel_saysOne_192_l8_s (φ := φ) (l1 := l1) (l2 := l2) (l3 := l3) n
    have f1 := iv_at (a := 194) (k := 4) (lo := 0) (u := 8) hI (by decide +kernel)
    refine ⟨by unfold hi; omega, by unfold hi; omega, fun q1 => ?_, fun q1 => ?_⟩
    · skip
      have e1a := e0.trans (if_pos q1)
      have i2 : Inv (hf_up φ 194 100 (l2 + 1)) := iv_up (lo := 0) (u := 8) hI (by decide +kernel) (by omega) (by omega)
      have r2 : Fr [194] φ (hf_up φ 194 100 (l2 + 1)) := fr_upa (fr_rf) (by decide)
      have i3 : Inv (hf_up (hf_up φ 194 100 (l2 + 1)) 194 101 (l1 + 1)) := iv_up (lo := 0) (u := 6) i2 (by decide +kernel) (by omega) (by omega)
      have r3 : Fr [194] φ (hf_up (hf_up φ 194 100 (l2 + 1)) 194 101 (l1 + 1)) := fr_upa r2 (by decide)
      refine ⟨by omega, by omega, ?_⟩
      have f4 : (hf_up (hf_up φ 194 100 (l2 + 1)) 194 101 (l1 + 1)) 194 ((166 + l1).toNat) = φ 194 ((166 + l1).toNat) := ((hf_up_ne (fun q => absurd q.2 (by omega))).trans (hf_up_ne (fun q => absurd q.2 (by omega))))
      refine ⟨by omega, by omega, ?_⟩
      have i5 : Inv (hf_up (hf_up (hf_up φ 194 100 (l2 + 1)) 194 101 (l1 + 1)) 194 ((166 + l1).toNat) (((hf_up (hf_up φ 194 100 (l2 + 1)) 194 101 (l1 + 1)) 194 ((166 + l1).toNat)) + 1)) := iv_upN (s := 166) (t := 180) (z := 166 + l1) i3 (by decide +kernel) (by omega) (by omega)
      have r5 : Fr [194] φ (hf_up (hf_up (hf_up φ 194 100 (l2 + 1)) 194 101 (l1 + 1)) 194 ((166 + l1).toNat) (((hf_up (hf_up φ 194 100 (l2 + 1)) 194 101 (l1 + 1)) 194 ((166 + l1).toNat)) + 1)) := fr_upa r3 (by decide)
      refine ⟨by omega, by omega, ?_⟩
      have f6 := iv_ar (a := 194) (s := 160) (t := 166) (lo := 0) (u := 5) (z := 160 + l1) i5 (by decide +kernel) (by omega) (by omega)
      have f7 : (hf_up (hf_up (hf_up φ 194 100 (l2 + 1)) 194 101 (l1 + 1)) 194 ((166 + l1).toNat) (((hf_up (hf_up φ 194 100 (l2 + 1)) 194 101 (l1 + 1)) 194 ((166 + l1).toNat)) + 1)) 194 ((160 + l1).toNat) = φ 194 ((160 + l1).toNat) := ((hf_up_ne (fun q => absurd q.2 (by omega))).trans ((hf_up_ne (fun q => absurd q.2 (by omega))).trans (hf_up_ne (fun q => absurd q.2 (by omega)))))
      have f8 := iv_ar (a := 194) (s := 160) (t := 166) (lo := 0) (u := 5) (z := 160 + l1) hI (by decide +kernel) (by omega) (by omega)
      refine ⟨by omega, by omega, ?_⟩
      have f9 := iv_ar (a := 194) (s := 118) (t := 124) (lo := 0) (u := 6) (z := 118 + l1) i5 (by decide +kernel) (by omega) (by omega)
      have f10 : (hf_up (hf_up (hf_up φ 194 100 (l2 + 1)) 194 101 (l1 + 1)) 194 ((166 + l1).toNat) (((hf_up (hf_up φ 194 100 (l2 + 1)) 194 101 (l1 + 1)) 194 ((166 + l1).toNat)) + 1)) 194 ((118 + l1).toNat) = φ 194 ((118 + l1).toNat) := ((hf_up_ne (fun q => absurd q.2 (by omega))).trans ((hf_up_ne (fun q => absurd q.2 (by omega))).trans (hf_up_ne (fun q => absurd q.2 (by omega)))))
      have f11 := iv_ar (a := 194) (s := 118) (t := 124) (lo := 0) (u := 6) (z := 118 + l1) hI (by decide +kernel) (by omega) (by omega)
      refine ⟨by unfold hi; omega, by unfold hi; omega, by omega, ?_⟩
      have f12 := hr_tmod (z := ((hf_up (hf_up (hf_up φ 194 100 (l2 + 1)) 194 101 (l1 + 1)) 194 ((166 + l1).toNat) (((hf_up (hf_up φ 194 100 (l2 + 1)) 194 101 (l1 + 1)) 194 ((166 + l1).toNat)) + 1)) 194 ((160 + l1).toNat)) + 1) (y := (hf_up (hf_up (hf_up φ 194 100 (l2 + 1)) 194 101 (l1 + 1)) 194 ((166 + l1).toNat) (((hf_up (hf_up φ 194 100 (l2 + 1)) 194 101 (l1 + 1)) 194 ((166 + l1).toNat)) + 1)) 194 ((118 + l1).toNat)) (by omega) (by omega)
      refine ⟨by omega, by omega, ?_⟩
      have i13 : Inv (hf_up (hf_up (hf_up (hf_up φ 194 100 (l2 + 1)) 194 101 (l1 + 1)) 194 ((166 + l1).toNat) (((hf_up (hf_up φ 194 100 (l2 + 1)) 194 101 (l1 + 1)) 194 ((166 + l1).toNat)) + 1)) 194 ((160 + l1).toNat) ((((hf_up (hf_up (hf_up φ 194 100 (l2 + 1)) 194 101 (l1 + 1)) 194 ((166 + l1).toNat) (((hf_up (hf_up φ 194 100 (l2 + 1)) 194 101 (l1 + 1)) 194 ((166 + l1).toNat)) + 1)) 194 ((160 + l1).toNat)) + 1).tmod ((hf_up (hf_up (hf_up φ 194 100 (l2 + 1)) 194 101 (l1 + 1)) 194 ((166 + l1).toNat) (((hf_up (hf_up φ 194 100 (l2 + 1)) 194 101 (l1 + 1)) 194 ((166 + l1).toNat)) + 1)) 194 ((118 + l1).toNat)))) := iv_upI (s := 160) (t := 166) (lo := 0) (u := 5) (z := 160 + l1) i5 (by decide +kernel) (by omega) (by omega) (by omega) (by omega)
      have r13 : Fr [194] φ (hf_up (hf_up (hf_up (hf_up φ 194 100 (l2 + 1)) 194 101 (l1 + 1)) 194 ((166 + l1).toNat) (((hf_up (hf_up φ 194 100 (l2 + 1)) 194 101 (l1 + 1)) 194 ((166 + l1).toNat)) + 1)) 194 ((160 + l1).toNat) ((((hf_up (hf_up (hf_up φ 194 100 (l2 + 1)) 194 101 (l1 + 1)) 194 ((166 + l1).toNat) (((hf_up (hf_up φ 194 100 (l2 + 1)) 194 101 (l1 + 1)) 194 ((166 + l1).toNat)) + 1)) 194 ((160 + l1).toNat)) + 1).tmod ((hf_up (hf_up (hf_up φ 194 100 (l2 + 1)) 194 101 (l1 + 1)) 194 ((166 + l1).toNat) (((hf_up (hf_up φ 194 100 (l2 + 1)) 194 101 (l1 + 1)) 194 ((166 + l1).toNat)) + 1)) 194 ((118 + l1).toNat)))) := fr_upa r5 (by decide)
      exact hQ (hf_up (hf_up (hf_up (hf_up φ 194 100 (l2 + 1)) 194 101 (l1 + 1)) 194 ((166 + l1).toNat) (((hf_up (hf_up φ 194 100 (l2 + 1)) 194 101 (l1 + 1)) 194 ((166 + l1).toNat)) + 1)) 194 ((160 + l1).toNat) ((((hf_up (hf_up (hf_up φ 194 100 (l2 + 1)) 194 101 (l1 + 1)) 194 ((166 + l1).toNat) (((hf_up (hf_up φ 194 100 (l2 + 1)) 194 101 (l1 + 1)) 194 ((166 + l1).toNat)) + 1)) 194 ((160 + l1).toNat)) + 1).tmod ((hf_up (hf_up (hf_up φ 194 100 (l2 + 1)) 194 101 (l1 + 1)) 194 ((166 + l1).toNat) (((hf_up (hf_up φ 194 100 (l2 + 1)) 194 101 (l1 + 1)) 194 ((166 + l1).toNat)) + 1)) 194 ((118 + l1).toNat)))) i13 r13 e1a
    · skip
      have e1b := e0.trans (if_neg q1)
      have f14 := iv_at (a := 194) (k := 100) (lo := 0) (u := 8) hI (by decide +kernel)
      refine ⟨by omega, by omega, ?_⟩
      have f15 := iv_ar (a := 194) (s := 75) (t := 83) (lo := 0) (u := 7) (z := 75 + l3) hI (by decide +kernel) (by omega) (by omega)
      refine ⟨by unfold hi; omega, by unfold hi; omega, fun q10 => ?_, fun q10 => ?_⟩
      · skip
        have e10a := e1b.trans (if_pos q10)
        have f16 := iv_ar (a := 194) (s := 118) (t := 124) (lo := 0) (u := 6) (z := 118 + l1) hI (by decide +kernel) (by omega) (by omega)
        exact ih φ (jm_st1 L 3 (0, l3 + 1)) l1 l2 (l3 + 1) (get_st1 g0 (by decide) (fun q => absurd q.1 (by decide))) (get_st1 g1 (by decide) (fun q => absurd q.1 (by decide))) (get_st1 g2 (by decide) (fun q => tg0 q.2)) get_st1e hI (by omega) (by omega) (by omega) (by omega) (by omega) (by omega) (by omega) (by omega) (fun χ hIχ hFχ hEχ => hQ χ hIχ (fr_tr (fr_rf) hFχ (by decide)) (e10a.trans hEχ))
      · skip
        have e10b := e1b.trans (if_neg q10)
        refine ⟨by omega, by omega, ?_⟩
        have f17 := iv_ar (a := 194) (s := 83) (t := 91) (lo := 0) (u := 7) (z := 83 + l3) hI (by decide +kernel) (by omega) (by omega)
        refine ⟨by unfold hi; omega, by unfold hi; omega, fun q12 => ?_, fun q12 => ?_⟩
        · skip
          have e12a := e10b.trans (if_pos q12)
          have f18 := iv_at (a := 194) (k := 102) (lo := (-2147483648 : Int)) (u := 2147483647) hI (by decide +kernel)
          have f19 := hr_shl1 l3
          have f20 := hr_shl 1 l3
          have f21 := hr_or (φ 194 102) (hb_shl 1 l3)
          refine ⟨by omega, by omega, ?_⟩
          have f22 := iv_ar (a := 194) (s := 91) (t := 99) (lo := (-2147483648 : Int)) (u := 2147483647) (z := 91 + l3) hI (by decide +kernel) (by omega) (by omega)
          have f23 := hr_xor (φ 194 ((91 + l3).toNat)) (-1 : Int)
          have f24 := hr_and0 (hb_or (φ 194 102) (hb_shl 1 l3)) (hb_xor (φ 194 ((91 + l3).toNat)) (-1 : Int))
          have f25 := hr_and (hb_or (φ 194 102) (hb_shl 1 l3)) (hb_xor (φ 194 ((91 + l3).toNat)) (-1 : Int))
          have i26 : Inv (hf_up φ 194 102 (hb_and (hb_or (φ 194 102) (hb_shl 1 l3)) (hb_xor (φ 194 ((91 + l3).toNat)) (-1 : Int)))) := iv_up (lo := (-2147483648 : Int)) (u := 2147483647) hI (by decide +kernel) (by omega) (by omega)
          have r26 : Fr [194] φ (hf_up φ 194 102 (hb_and (hb_or (φ 194 102) (hb_shl 1 l3)) (hb_xor (φ 194 ((91 + l3).toNat)) (-1 : Int)))) := fr_upa (fr_rf) (by decide)
          refine ⟨by omega, by omega, ?_⟩
          have f27 : (hf_up φ 194 102 (hb_and (hb_or (φ 194 102) (hb_shl 1 l3)) (hb_xor (φ 194 ((91 + l3).toNat)) (-1 : Int)))) 194 ((172 + l3).toNat) = φ 194 ((172 + l3).toNat) := (hf_up_ne (fun q => absurd q.2 (by omega)))
          refine ⟨by omega, by omega, ?_⟩
          have i28 : Inv (hf_up (hf_up φ 194 102 (hb_and (hb_or (φ 194 102) (hb_shl 1 l3)) (hb_xor (φ 194 ((91 + l3).toNat)) (-1 : Int)))) 194 ((172 + l3).toNat) (((hf_up φ 194 102 (hb_and (hb_or (φ 194 102) (hb_shl 1 l3)) (hb_xor (φ 194 ((91 + l3).toNat)) (-1 : Int)))) 194 ((172 + l3).toNat)) + 1)) := iv_upN (s := 166) (t := 180) (z := 172 + l3) i26 (by decide +kernel) (by omega) (by omega)
          have r28 : Fr [194] φ (hf_up (hf_up φ 194 102 (hb_and (hb_or (φ 194 102) (hb_shl 1 l3)) (hb_xor (φ 194 ((91 + l3).toNat)) (-1 : Int)))) 194 ((172 + l3).toNat) (((hf_up φ 194 102 (hb_and (hb_or (φ 194 102) (hb_shl 1 l3)) (hb_xor (φ 194 ((91 + l3).toNat)) (-1 : Int)))) 194 ((172 + l3).toNat)) + 1)) := fr_upa r26 (by decide)
          have f29 : (hf_up (hf_up φ 194 102 (hb_and (hb_or (φ 194 102) (hb_shl 1 l3)) (hb_xor (φ 194 ((91 + l3).toNat)) (-1 : Int)))) 194 ((172 + l3).toNat) (((hf_up φ 194 102 (hb_and (hb_or (φ 194 102) (hb_shl 1 l3)) (hb_xor (φ 194 ((91 + l3).toNat)) (-1 : Int)))) 194 ((172 + l3).toNat)) + 1)) 194 ((118 + l1).toNat) = φ 194 ((118 + l1).toNat) := ((hf_up_ne (fun q => absurd q.2 (by omega))).trans (hf_up_ne (fun q => absurd q.2 (by omega))))
          have f30 := iv_ar (a := 194) (s := 118) (t := 124) (lo := 0) (u := 6) (z := 118 + l1) hI (by decide +kernel) (by omega) (by omega)
          exact ih (hf_up (hf_up φ 194 102 (hb_and (hb_or (φ 194 102) (hb_shl 1 l3)) (hb_xor (φ 194 ((91 + l3).toNat)) (-1 : Int)))) 194 ((172 + l3).toNat) (((hf_up φ 194 102 (hb_and (hb_or (φ 194 102) (hb_shl 1 l3)) (hb_xor (φ 194 ((91 + l3).toNat)) (-1 : Int)))) 194 ((172 + l3).toNat)) + 1)) (jm_st1 L 3 (0, l3 + 1)) l1 l2 (l3 + 1) (get_st1 g0 (by decide) (fun q => absurd q.1 (by decide))) (get_st1 g1 (by decide) (fun q => absurd q.1 (by decide))) (get_st1 g2 (by decide) (fun q => tg0 q.2)) get_st1e i28 (by omega) (by omega) (by omega) (by omega) (by omega) (by omega) (by omega) (by omega) (fun χ hIχ hFχ hEχ => hQ χ hIχ (fr_tr r28 hFχ (by decide)) (e12a.trans hEχ))
        · skip
          have e12b := e10b.trans (if_neg q12)
          have f31 := iv_ar (a := 194) (s := 118) (t := 124) (lo := 0) (u := 6) (z := 118 + l1) hI (by decide +kernel) (by omega) (by omega)
          exact ih φ (jm_st1 L 3 (0, l3 + 1)) l1 l2 (l3 + 1) (get_st1 g0 (by decide) (fun q => absurd q.1 (by decide))) (get_st1 g1 (by decide) (fun q => absurd q.1 (by decide))) (get_st1 g2 (by decide) (fun q => tg0 q.2)) get_st1e hI (by omega) (by omega) (by omega) (by omega) (by omega) (by omega) (by omega) (by omega) (fun χ hIχ hFχ hEχ => hQ χ hIχ (fr_tr (fr_rf) hFχ (by decide)) (e12b.trans hEχ))
theorem sf_227_192_v {sc : List Int} {d : Nat} {φ : hf_F} {x : Nat} {Q : Option jm_V → hf_F → Nat → Prop} {v1 : Int}
    (H : hw sc d 204 0 [(0, (2, 192)), (1, (0, v1))] [] φ x (fun r ψ1 y1 => y1 = x ∧ φ = ψ1 ∧ (∃ z1 : Int, r = some (0, z1) ∧ (hw sc (d + 1) 227 8 (jm_st1 (jm_st1 [(0, (2, 192)), (1, (0, v1))] 2 (0, z1)) 3 (0, 0)) [] φ x Q)))) :
    hw sc (d + 1) 227 0 [(0, (2, 192)), (1, (0, v1))] [] φ x Q := by
  refine hw_ald (b := 0) (e := 0) (by decide +kernel) rfl (by decide) ?_
  refine hw_ld (b := 1) (e := 0) (by decide +kernel) rfl ?_
  refine hr_call (a0 := 22) (b := 204) (e := 2) (nl := 2) (As := [(0, v1)]) (R := []) 192 rfl (by decide +kernel) rfl rfl (Nat.le_of_ble_eq_true rfl) (Nat.le_of_ble_eq_true rfl) ?_
  refine hw_mono H ?_
  rintro r ψ1 y1 ⟨hyx, hψx, z1, hr, H⟩
  subst hyx
  subst hψx
  subst hr
  refine ⟨hne0, ?_⟩
  show hw sc (d + 1) 227 5 [(0, (2, 192)), (1, (0, v1))] [(0, z1)] φ y1 Q
  refine hw_st (L' := (jm_st1 [(0, (2, 192)), (1, (0, v1))] 2 (0, z1))) (b := 2) (e := 0) (by decide +kernel) rfl ?_
  refine hw_k (c := 0) (b := 0) (e := 1) (by decide +kernel) ?_
  refine hw_st (L' := (jm_st1 (jm_st1 [(0, (2, 192)), (1, (0, v1))] 2 (0, z1)) 3 (0, 0))) (b := 3) (e := 0) (by decide +kernel) rfl ?_
  exact H
theorem sf_227_192 {sc : List Int} {d : Nat} {φ : hf_F} {x : Nat} {Q : Option jm_V → hf_F → Nat → Prop} {v1 : Int} (hI : Inv φ) (h1a : 0 ≤ v1) (h1b : v1 ≤ 5) (hp0 : 1 ≤ φ 194 (118 + v1).toNat) (hQ : ∀ ψ : hf_F, Inv ψ → Fr [194] φ ψ → F_RideLawsModel_saysOne_192 φ v1 = ψ → Q none ψ x) : hw sc (d + 1) 227 0 [(0, (2, 192)), (1, (0, v1))] [] φ x Q := by
  apply sf_227_192_v
  have e0 : F_RideLawsModel_saysOne_192 φ v1 = _ := rfl
  refine sf_204_192 (φ := φ) hI (by omega) (by omega) (fun z1 hp1 hE1 => ⟨rfl, rfl, z1, rfl, ?_⟩)
  have e1 := e0.trans (bnp_e hE1)
  have f1 := iv_ar (a := 194) (s := 118) (t := 124) (lo := 0) (u := 6) (z := 118 + v1) hI (by decide +kernel) (by omega) (by omega)
  exact sf_227_192_l8 ((8 - 0 : Int).toNat + 1) φ (jm_st1 (jm_st1 [(0, (2, 192)), (1, (0, v1))] 2 (0, z1)) 3 (0, 0)) v1 z1 0 (get_st1 (get_st1 rfl (by decide) (fun q => absurd q.1 (by decide))) (by decide) (fun q => absurd q.1 (by decide))) (get_st1 (get_st1 rfl (by decide) (fun q => tg0 q.2)) (by decide) (fun q => absurd q.1 (by decide))) (get_st1 get_st1e (by decide) (fun q => tg0 q.2)) get_st1e hI (by omega) (by omega) (by omega) (by omega) (by omega) (by omega) (by omega) (by omega) (fun χ hIχ hFχ hEχ => hQ χ hIχ (fr_tr (fr_rf) hFχ (by decide)) (e1.trans hEχ))
theorem sf_226_192_v73 {sc : List Int} {d : Nat} {φ : hf_F} {x : Nat} {Q : Option jm_V → hf_F → Nat → Prop} {L : jm_L} {l1 : Int} (g0 : jm_get L 0 = some (2, 192)) (g1 : jm_get L 1 = some (0, l1))
    (H : hi l1 ∧ hi (φ 194 1) ∧ ((φ 194 1) ≤ l1 → Q none (hf_up φ 194 99 ((φ 194 99) + 1)) x) ∧ (¬ (φ 194 1) ≤ l1 → 0 ≤ (104 + l1) ∧ (104 + l1) < 361 ∧ (hi (φ 194 ((104 + l1).toNat)) ∧ (¬ (φ 194 ((104 + l1).toNat)) = 0 → hw sc (d + 2) 226 73 (jm_st1 (jm_st1 L 2 (0, (-1 : Int))) 1 (0, l1 + 1)) [] φ x Q) ∧ (¬ (¬ (φ 194 ((104 + l1).toNat)) = 0) → hw sc (d + 1) 209 0 [(0, (2, 192)), (1, (0, l1))] [] φ x (fun r ψ6 y6 => y6 = x ∧ φ = ψ6 ∧ (∃ z6 : Int, r = some (0, z6) ∧ (hi z6 ∧ (z6 < 0 → hw sc (d + 2) 226 73 (jm_st1 (jm_st1 L 2 (0, z6)) 1 (0, l1 + 1)) [] φ x Q) ∧ (¬ z6 < 0 → 0 ≤ (118 + z6) ∧ (118 + z6) < 361 ∧ (hi (φ 194 ((118 + z6).toNat)) ∧ ((φ 194 ((118 + z6).toNat)) ≤ 0 → hw sc (d + 2) 226 73 (jm_st1 (jm_st1 L 2 (0, z6)) 1 (0, l1 + 1)) [] φ x Q) ∧ (¬ (φ 194 ((118 + z6).toNat)) ≤ 0 → hw sc (d + 1) 227 0 [(0, (2, 192)), (1, (0, z6))] [] φ x (fun r ψ10 y10 => y10 = x ∧ (r = none ∧ (hw sc (d + 2) 226 73 (jm_st1 (jm_st1 L 2 (0, z6)) 1 (0, l1 + 1)) [] ψ10 x Q))))))))))))) :
    hw sc (d + 2) 226 73 L [] φ x Q := by
  refine hw_ld (b := 1) (e := 0) (by decide +kernel) g1 ?_
  refine hw_ald (b := 0) (e := 0) (by decide +kernel) g0 (by decide) ?_
  refine hr_gr (w := 194) (b := 12) (e := 6) 192 rfl (by decide +kernel) ?_
  refine hw_k (c := 1) (b := 0) (e := 1) (by decide +kernel) ?_
  refine hr_al (b := 0) (a0 := 0) (e := 0) (n := 361) (w := φ 194 1) 194 rfl (by decide +kernel) (by decide) (by decide) (by decide) rfl ?_
  obtain ⟨hz1, hy1, ht1, hf1⟩ := H
  refine hw_if2 (a0 := 0) (b := 3) (e := 132) (by decide +kernel) hz1 hy1 (fun q => ?_) (fun q => ?_)
  · have H := ht1 q
    refine hw_ald (b := 0) (e := 0) (by decide +kernel) g0 (by decide) ?_
    refine hr_gr (w := 194) (b := 12) (e := 6) 192 rfl (by decide +kernel) ?_
    refine hw_k (c := 99) (b := 1) (e := 2) (by decide +kernel) ?_
    refine hw_dup2 (a0 := 0) (e := 0) (by decide +kernel) (by decide) (by decide) ?_
    refine hr_al (b := 0) (a0 := 0) (e := 0) (n := 361) (w := φ 194 99) 194 rfl (by decide +kernel) (by decide) (by decide) (by decide) rfl ?_
    refine hw_k (c := 1) (b := 0) (e := 1) (by decide +kernel) ?_
    refine hw_bin (w := (φ 194 99) + 1) (a0 := 0) (b := 0) (e := 0) (by decide +kernel) rfl ?_
    refine hr_as (a0 := 0) (e := 4) (n := 361) 194 rfl (by decide +kernel) (by decide) (by decide) ?_
    exact hw_vret (a0 := 0) (e := 0) (by decide +kernel) H
  · have H := hf1 q
    refine hw_ald (b := 0) (e := 0) (by decide +kernel) g0 (by decide) ?_
    refine hr_gr (w := 194) (b := 12) (e := 6) 192 rfl (by decide +kernel) ?_
    refine hw_k (c := 104) (b := 1) (e := 2) (by decide +kernel) ?_
    refine hw_ld (b := 1) (e := 0) (by decide +kernel) g1 ?_
    refine hw_bin (w := 104 + l1) (a0 := 0) (b := 0) (e := 0) (by decide +kernel) rfl ?_
    obtain ⟨hl3, hu3, H⟩ := H
    refine hr_al (b := 0) (a0 := 0) (e := 0) (n := 361) (w := φ 194 ((104 + l1).toNat)) 194 rfl (by decide +kernel) (by decide) hl3 hu3 rfl ?_
    obtain ⟨hz4, ht4, hf4⟩ := H
    refine hw_if (a0 := 0) (b := 1) (e := 103) (by decide +kernel) hz4 (fun q => ?_) (fun q => ?_)
    · have H := ht4 q
      refine hw_k (c := (-1 : Int)) (b := 0) (e := 1) (by decide +kernel) ?_
      refine hw_st (L' := (jm_st1 L 2 (0, (-1 : Int)))) (b := 2) (e := 0) (by decide +kernel) rfl ?_
      refine hw_ld (b := 2) (e := 0) (by decide +kernel) get_st1e ?_
      refine hw_if (a0 := 0) (b := 2) (e := 126) (by decide +kernel) (by unfold hi; omega) (fun _ => ?_) (fun q => absurd (show (-1 : Int) < 0 by decide) q)
      refine hw_inc (L' := (jm_st1 (jm_st1 L 2 (0, (-1 : Int))) 1 (0, l1 + 1))) (c := 1) (b := 1) (e := 0) (by decide +kernel) (get_st1 g1 (by decide) (fun q => tg0 q.2)) rfl ?_
      refine hw_goto (a0 := 0) (b := 0) (e := 73) (by decide +kernel) ?_
      exact H
    · have H := hf4 q
      refine hw_ald (b := 0) (e := 0) (by decide +kernel) g0 (by decide) ?_
      refine hw_ld (b := 1) (e := 0) (by decide +kernel) g1 ?_
      refine hr_call (a0 := 22) (b := 209) (e := 2) (nl := 3) (As := [(0, l1)]) (R := []) 192 rfl (by decide +kernel) rfl rfl (Nat.le_of_ble_eq_true rfl) (Nat.le_of_ble_eq_true rfl) ?_
      refine hw_mono H ?_
      rintro r ψ6 y6 ⟨hyx, hψx, z6, hr, H⟩
      subst hyx
      subst hψx
      subst hr
      refine ⟨hne0, ?_⟩
      show hw sc (d + 2) 226 100 L [(0, z6)] φ y6 Q
      refine hw_goto (a0 := 0) (b := 0) (e := 104) (by decide +kernel) ?_
      refine hw_st (L' := (jm_st1 L 2 (0, z6))) (b := 2) (e := 0) (by decide +kernel) rfl ?_
      refine hw_ld (b := 2) (e := 0) (by decide +kernel) get_st1e ?_
      obtain ⟨hz7, ht7, hf7⟩ := H
      refine hw_if (a0 := 0) (b := 2) (e := 126) (by decide +kernel) hz7 (fun q => ?_) (fun q => ?_)
      · have H := ht7 q
        refine hw_inc (L' := (jm_st1 (jm_st1 L 2 (0, z6)) 1 (0, l1 + 1))) (c := 1) (b := 1) (e := 0) (by decide +kernel) (get_st1 g1 (by decide) (fun q => tg0 q.2)) rfl ?_
        refine hw_goto (a0 := 0) (b := 0) (e := 73) (by decide +kernel) ?_
        exact H
      · have H := hf7 q
        refine hw_ald (b := 0) (e := 0) (by decide +kernel) (get_st1 g0 (by decide) (fun q => absurd q.1 (by decide))) (by decide) ?_
        refine hr_gr (w := 194) (b := 12) (e := 6) 192 rfl (by decide +kernel) ?_
        refine hw_k (c := 118) (b := 1) (e := 2) (by decide +kernel) ?_
        refine hw_ld (b := 2) (e := 0) (by decide +kernel) get_st1e ?_
        refine hw_bin (w := 118 + z6) (a0 := 0) (b := 0) (e := 0) (by decide +kernel) rfl ?_
        obtain ⟨hl8, hu8, H⟩ := H
        refine hr_al (b := 0) (a0 := 0) (e := 0) (n := 361) (w := φ 194 ((118 + z6).toNat)) 194 rfl (by decide +kernel) (by decide) hl8 hu8 rfl ?_
        obtain ⟨hz9, ht9, hf9⟩ := H
        refine hw_if (a0 := 0) (b := 5) (e := 126) (by decide +kernel) hz9 (fun q => ?_) (fun q => ?_)
        · have H := ht9 q
          refine hw_inc (L' := (jm_st1 (jm_st1 L 2 (0, z6)) 1 (0, l1 + 1))) (c := 1) (b := 1) (e := 0) (by decide +kernel) (get_st1 g1 (by decide) (fun q => tg0 q.2)) rfl ?_
          refine hw_goto (a0 := 0) (b := 0) (e := 73) (by decide +kernel) ?_
          exact H
        · have H := hf9 q
          refine hw_ald (b := 0) (e := 0) (by decide +kernel) (get_st1 g0 (by decide) (fun q => absurd q.1 (by decide))) (by decide) ?_
          refine hw_ld (b := 2) (e := 0) (by decide +kernel) get_st1e ?_
          refine hr_call (a0 := 22) (b := 227) (e := 2) (nl := 4) (As := [(0, z6)]) (R := []) 192 rfl (by decide +kernel) rfl rfl (Nat.le_of_ble_eq_true rfl) (Nat.le_of_ble_eq_true rfl) ?_
          refine hw_mono H ?_
          rintro r ψ10 y10 ⟨hyx, hr, H⟩
          subst hyx
          subst hr
          refine ⟨hnen, ?_⟩
          show hw sc (d + 2) 226 126 (jm_st1 L 2 (0, z6)) [] ψ10 y10 Q
          refine hw_inc (L' := (jm_st1 (jm_st1 L 2 (0, z6)) 1 (0, l1 + 1))) (c := 1) (b := 1) (e := 0) (by decide +kernel) (get_st1 g1 (by decide) (fun q => tg0 q.2)) rfl ?_
          refine hw_goto (a0 := 0) (b := 0) (e := 73) (by decide +kernel) ?_
          exact H
theorem sf_226_192_l73 {sc : List Int} {d x : Nat} {Q : Option jm_V → hf_F → Nat → Prop} : ∀ (n : Nat) (φ : hf_F) (L : jm_L) (l1 : Int), jm_get L 0 = some (2, 192) → jm_get L 1 = some (0, l1) → Inv φ → 8 - l1 < (n : Int) → 0 ≤ l1 → l1 ≤ 8 → (∀ ψ : hf_F, Inv ψ → Fr [194] φ ψ → F_RideLawsModel_tick_192_l73 n φ l1 = ψ → Q none ψ x) → hw sc (d + 2) 226 73 L [] φ x Q := by
  intro n
  induction n with
  | zero =>
    intro φ L l1 g0 g1 hI hM b1a b1b hQ
    exfalso
    omega
  | succ n ih =>
    intro φ L l1 g0 g1 hI hM b1a b1b hQ
    refine sf_226_192_v73 g0 g1 ?_
    have e0 := F_RideLawsModel_tick_192_l73_s (φ := φ) (l1 := l1) n
    have f1 := iv_at (a := 194) (k := 1) (lo := 0) (u := 8) hI (by decide +kernel)
    refine ⟨by unfold hi; omega, by unfold hi; omega, fun q1 => ?_, fun q1 => ?_⟩
    · skip
      have e1a := e0.trans (if_pos q1)
      have i2 : Inv (hf_up φ 194 99 ((φ 194 99) + 1)) := iv_upn hI (by decide) (by decide) (by decide +kernel)
      have r2 : Fr [194] φ (hf_up φ 194 99 ((φ 194 99) + 1)) := fr_upa (fr_rf) (by decide)
      exact hQ (hf_up φ 194 99 ((φ 194 99) + 1)) i2 r2 e1a
    · skip
      have e1b := e0.trans (if_neg q1)
      refine ⟨by omega, by omega, ?_⟩
      have f3 := iv_ar (a := 194) (s := 104) (t := 112) (lo := 0) (u := 29) (z := 104 + l1) hI (by decide +kernel) (by omega) (by omega)
      refine ⟨by unfold hi; omega, fun q4 => ?_, fun q4 => ?_⟩
      · skip
        have e4a := e1b.trans (if_pos q4)
        exact ih φ (jm_st1 (jm_st1 L 2 (0, (-1 : Int))) 1 (0, l1 + 1)) (l1 + 1) (get_st1 (get_st1 g0 (by decide) (fun q => absurd q.1 (by decide))) (by decide) (fun q => tg2 q.2)) get_st1e hI (by omega) (by omega) (by omega) (fun χ hIχ hFχ hEχ => hQ χ hIχ (fr_tr (fr_rf) hFχ (by decide)) (e4a.trans hEχ))
      · skip
        have e4b := e1b.trans (if_neg q4)
        refine sf_209_192 (φ := φ) hI (by omega) (by omega) (fun z6 hp6 hE6 => ⟨rfl, rfl, z6, rfl, ?_⟩)
        have e6 := e4b.trans (bnp_e hE6)
        refine ⟨by unfold hi; omega, fun q7 => ?_, fun q7 => ?_⟩
        · skip
          have e7a := e6.trans (if_pos q7)
          exact ih φ (jm_st1 (jm_st1 L 2 (0, z6)) 1 (0, l1 + 1)) (l1 + 1) (get_st1 (get_st1 g0 (by decide) (fun q => absurd q.1 (by decide))) (by decide) (fun q => tg2 q.2)) get_st1e hI (by omega) (by omega) (by omega) (fun χ hIχ hFχ hEχ => hQ χ hIχ (fr_tr (fr_rf) hFχ (by decide)) (e7a.trans hEχ))
        · skip
          have e7b := e6.trans (if_neg q7)
          refine ⟨by omega, by omega, ?_⟩
          have f4 := iv_ar (a := 194) (s := 118) (t := 124) (lo := 0) (u := 6) (z := 118 + z6) hI (by decide +kernel) (by omega) (by omega)
          refine ⟨by unfold hi; omega, fun q9 => ?_, fun q9 => ?_⟩
          · skip
            have e9a := e7b.trans (if_pos q9)
            exact ih φ (jm_st1 (jm_st1 L 2 (0, z6)) 1 (0, l1 + 1)) (l1 + 1) (get_st1 (get_st1 g0 (by decide) (fun q => absurd q.1 (by decide))) (by decide) (fun q => tg2 q.2)) get_st1e hI (by omega) (by omega) (by omega) (fun χ hIχ hFχ hEχ => hQ χ hIχ (fr_tr (fr_rf) hFχ (by decide)) (e9a.trans hEχ))
          · skip
            have e9b := e7b.trans (if_neg q9)
            refine sf_227_192 (φ := φ) hI (by omega) (by omega) (by omega) (fun ψ10 hI10 hF10 hE10 => ⟨rfl, rfl, ?_⟩)
            have hG10 : Fr [194] φ ψ10 := fr_tr (fr_rf) hF10 (by decide)
            have e10 := e9b.trans (bnv_e hE10)
            exact ih ψ10 (jm_st1 (jm_st1 L 2 (0, z6)) 1 (0, l1 + 1)) (l1 + 1) (get_st1 (get_st1 g0 (by decide) (fun q => absurd q.1 (by decide))) (by decide) (fun q => tg2 q.2)) get_st1e hI10 (by omega) (by omega) (by omega) (fun χ hIχ hFχ hEχ => hQ χ hIχ (fr_tr hG10 hFχ (by decide)) (e10.trans hEχ))
theorem sf_226_192_v2 {sc : List Int} {d : Nat} {φ : hf_F} {x : Nat} {Q : Option jm_V → hf_F → Nat → Prop} {L : jm_L} {l1 : Int} (g0 : jm_get L 0 = some (2, 192)) (g1 : jm_get L 1 = some (0, l1))
    (H : hi l1 ∧ hi (φ 194 1) ∧ ((φ 194 1) ≤ l1 → hw sc (d + 2) 226 73 (jm_st1 L 1 (0, 0)) [] φ x Q) ∧ (¬ (φ 194 1) ≤ l1 → 0 ≤ (104 + l1) ∧ (104 + l1) < 361 ∧ (0 ≤ (11 + l1) ∧ (11 + l1) < 361 ∧ (0 ≤ (8 + (φ 194 ((11 + l1).toNat))) ∧ (8 + (φ 194 ((11 + l1).toNat))) < 361 ∧ (0 ≤ (11 + l1) ∧ (11 + l1) < 361 ∧ (0 ≤ (5 + (φ 194 ((11 + l1).toNat))) ∧ (5 + (φ 194 ((11 + l1).toNat))) < 361 ∧ (hi ((φ 194 ((104 + l1).toNat)) + (φ 194 ((8 + (φ 194 ((11 + l1).toNat))).toNat))) ∧ hi (φ 194 ((5 + (φ 194 ((11 + l1).toNat))).toNat)) ∧ ¬ (φ 194 ((5 + (φ 194 ((11 + l1).toNat))).toNat)) = 0 ∧ (0 ≤ (104 + l1) ∧ (104 + l1) < 361 ∧ (hw sc (d + 2) 226 2 (jm_st1 L 1 (0, l1 + 1)) [] (hf_up φ 194 ((104 + l1).toNat) (((φ 194 ((104 + l1).toNat)) + (φ 194 ((8 + (φ 194 ((11 + l1).toNat))).toNat))).tmod (φ 194 ((5 + (φ 194 ((11 + l1).toNat))).toNat)))) x Q))))))))) :
    hw sc (d + 2) 226 2 L [] φ x Q := by
  refine hw_ld (b := 1) (e := 0) (by decide +kernel) g1 ?_
  refine hw_ald (b := 0) (e := 0) (by decide +kernel) g0 (by decide) ?_
  refine hr_gr (w := 194) (b := 12) (e := 6) 192 rfl (by decide +kernel) ?_
  refine hw_k (c := 1) (b := 0) (e := 1) (by decide +kernel) ?_
  refine hr_al (b := 0) (a0 := 0) (e := 0) (n := 361) (w := φ 194 1) 194 rfl (by decide +kernel) (by decide) (by decide) (by decide) rfl ?_
  obtain ⟨hz1, hy1, ht1, hf1⟩ := H
  refine hw_if2 (a0 := 0) (b := 3) (e := 71) (by decide +kernel) hz1 hy1 (fun q => ?_) (fun q => ?_)
  · have H := ht1 q
    refine hw_k (c := 0) (b := 0) (e := 1) (by decide +kernel) ?_
    refine hw_st (L' := (jm_st1 L 1 (0, 0))) (b := 1) (e := 0) (by decide +kernel) rfl ?_
    exact H
  · have H := hf1 q
    refine hw_ald (b := 0) (e := 0) (by decide +kernel) g0 (by decide) ?_
    refine hr_gr (w := 194) (b := 12) (e := 6) 192 rfl (by decide +kernel) ?_
    refine hw_k (c := 104) (b := 1) (e := 2) (by decide +kernel) ?_
    refine hw_ld (b := 1) (e := 0) (by decide +kernel) g1 ?_
    refine hw_bin (w := 104 + l1) (a0 := 0) (b := 0) (e := 0) (by decide +kernel) rfl ?_
    refine hw_ald (b := 0) (e := 0) (by decide +kernel) g0 (by decide) ?_
    refine hr_gr (w := 194) (b := 12) (e := 6) 192 rfl (by decide +kernel) ?_
    refine hw_k (c := 104) (b := 1) (e := 2) (by decide +kernel) ?_
    refine hw_ld (b := 1) (e := 0) (by decide +kernel) g1 ?_
    refine hw_bin (w := 104 + l1) (a0 := 0) (b := 0) (e := 0) (by decide +kernel) rfl ?_
    obtain ⟨hl2, hu2, H⟩ := H
    refine hr_al (b := 0) (a0 := 0) (e := 0) (n := 361) (w := φ 194 ((104 + l1).toNat)) 194 rfl (by decide +kernel) (by decide) hl2 hu2 rfl ?_
    refine hw_ald (b := 0) (e := 0) (by decide +kernel) g0 (by decide) ?_
    refine hr_gr (w := 194) (b := 12) (e := 6) 192 rfl (by decide +kernel) ?_
    refine hw_k (c := 8) (b := 1) (e := 2) (by decide +kernel) ?_
    refine hw_ald (b := 0) (e := 0) (by decide +kernel) g0 (by decide) ?_
    refine hr_gr (w := 194) (b := 12) (e := 6) 192 rfl (by decide +kernel) ?_
    refine hw_k (c := 11) (b := 1) (e := 2) (by decide +kernel) ?_
    refine hw_ld (b := 1) (e := 0) (by decide +kernel) g1 ?_
    refine hw_bin (w := 11 + l1) (a0 := 0) (b := 0) (e := 0) (by decide +kernel) rfl ?_
    obtain ⟨hl3, hu3, H⟩ := H
    refine hr_al (b := 0) (a0 := 0) (e := 0) (n := 361) (w := φ 194 ((11 + l1).toNat)) 194 rfl (by decide +kernel) (by decide) hl3 hu3 rfl ?_
    refine hw_bin (w := 8 + (φ 194 ((11 + l1).toNat))) (a0 := 0) (b := 0) (e := 0) (by decide +kernel) rfl ?_
    obtain ⟨hl4, hu4, H⟩ := H
    refine hr_al (b := 0) (a0 := 0) (e := 0) (n := 361) (w := φ 194 ((8 + (φ 194 ((11 + l1).toNat))).toNat)) 194 rfl (by decide +kernel) (by decide) hl4 hu4 rfl ?_
    refine hw_bin (w := (φ 194 ((104 + l1).toNat)) + (φ 194 ((8 + (φ 194 ((11 + l1).toNat))).toNat))) (a0 := 0) (b := 0) (e := 0) (by decide +kernel) rfl ?_
    refine hw_ald (b := 0) (e := 0) (by decide +kernel) g0 (by decide) ?_
    refine hr_gr (w := 194) (b := 12) (e := 6) 192 rfl (by decide +kernel) ?_
    refine hw_k (c := 5) (b := 0) (e := 1) (by decide +kernel) ?_
    refine hw_ald (b := 0) (e := 0) (by decide +kernel) g0 (by decide) ?_
    refine hr_gr (w := 194) (b := 12) (e := 6) 192 rfl (by decide +kernel) ?_
    refine hw_k (c := 11) (b := 1) (e := 2) (by decide +kernel) ?_
    refine hw_ld (b := 1) (e := 0) (by decide +kernel) g1 ?_
    refine hw_bin (w := 11 + l1) (a0 := 0) (b := 0) (e := 0) (by decide +kernel) rfl ?_
    obtain ⟨hl5, hu5, H⟩ := H
    refine hr_al (b := 0) (a0 := 0) (e := 0) (n := 361) (w := φ 194 ((11 + l1).toNat)) 194 rfl (by decide +kernel) (by decide) hl5 hu5 rfl ?_
    refine hw_bin (w := 5 + (φ 194 ((11 + l1).toNat))) (a0 := 0) (b := 0) (e := 0) (by decide +kernel) rfl ?_
    obtain ⟨hl6, hu6, H⟩ := H
    refine hr_al (b := 0) (a0 := 0) (e := 0) (n := 361) (w := φ 194 ((5 + (φ 194 ((11 + l1).toNat))).toNat)) 194 rfl (by decide +kernel) (by decide) hl6 hu6 rfl ?_
    obtain ⟨hz7, hy7, hn7, H⟩ := H
    refine hw_bin (w := ((φ 194 ((104 + l1).toNat)) + (φ 194 ((8 + (φ 194 ((11 + l1).toNat))).toNat))).tmod (φ 194 ((5 + (φ 194 ((11 + l1).toNat))).toNat))) (a0 := 0) (b := 10) (e := 0) (by decide +kernel) (hb_rem hz7 hy7 hn7) ?_
    obtain ⟨hl8, hu8, H⟩ := H
    refine hr_as (a0 := 0) (e := 4) (n := 361) 194 rfl (by decide +kernel) hl8 hu8 ?_
    refine hw_inc (L' := (jm_st1 L 1 (0, l1 + 1))) (c := 1) (b := 1) (e := 0) (by decide +kernel) g1 rfl ?_
    refine hw_goto (a0 := 0) (b := 0) (e := 2) (by decide +kernel) ?_
    exact H
theorem sf_226_192_l2 {sc : List Int} {d x : Nat} {Q : Option jm_V → hf_F → Nat → Prop} : ∀ (n : Nat) (φ : hf_F) (L : jm_L) (l1 : Int), jm_get L 0 = some (2, 192) → jm_get L 1 = some (0, l1) → Inv φ → 8 - l1 < (n : Int) → 0 ≤ l1 → l1 ≤ 8 → (∀ ψ : hf_F, Inv ψ → Fr [194] φ ψ → F_RideLawsModel_tick_192_l2 n φ l1 = ψ → Q none ψ x) → hw sc (d + 2) 226 2 L [] φ x Q := by
  intro n
  induction n with
  | zero =>
    intro φ L l1 g0 g1 hI hM b1a b1b hQ
    exfalso
    omega
  | succ n ih =>
    intro φ L l1 g0 g1 hI hM b1a b1b hQ
    refine sf_226_192_v2 g0 g1 ?_
    have ffx202 := rs_f hI l1
    have e0 := F_RideLawsModel_tick_192_l2_s (φ := φ) (l1 := l1) n
    have f1 := iv_at (a := 194) (k := 1) (lo := 0) (u := 8) hI (by decide +kernel)
    refine ⟨by unfold hi; omega, by unfold hi; omega, fun q1 => ?_, fun q1 => ?_⟩
    · skip
      have e1a := e0.trans (if_pos q1)
      exact sf_226_192_l73 ((8 - 0 : Int).toNat + 1) φ (jm_st1 L 1 (0, 0)) 0 (get_st1 g0 (by decide) (fun q => tg2 q.2)) get_st1e hI (by omega) (by omega) (by omega) (fun χ hIχ hFχ hEχ => hQ χ hIχ (fr_tr (fr_rf) hFχ (by decide)) (e1a.trans hEχ))
    · skip
      have e1b := e0.trans (if_neg q1)
      refine ⟨by omega, by omega, ?_⟩
      have f2 := iv_ar (a := 194) (s := 104) (t := 112) (lo := 0) (u := 29) (z := 104 + l1) hI (by decide +kernel) (by omega) (by omega)
      refine ⟨by omega, by omega, ?_⟩
      have f3 := iv_ar (a := 194) (s := 11) (t := 19) (lo := 0) (u := 2) (z := 11 + l1) hI (by decide +kernel) (by omega) (by omega)
      refine ⟨by omega, by omega, ?_⟩
      have f4 := iv_ar (a := 194) (s := 8) (t := 11) (lo := 0) (u := 9) (z := 8 + (φ 194 ((11 + l1).toNat))) hI (by decide +kernel) (by omega) (by omega)
      refine ⟨by omega, by omega, ?_⟩
      refine ⟨by omega, by omega, ?_⟩
      have f5 := iv_ar (a := 194) (s := 5) (t := 8) (lo := 0) (u := 30) (z := 5 + (φ 194 ((11 + l1).toNat))) hI (by decide +kernel) (by omega) (by omega)
      refine ⟨by unfold hi; omega, by unfold hi; omega, by omega, ?_⟩
      have f6 := hr_tmod (z := (φ 194 ((104 + l1).toNat)) + (φ 194 ((8 + (φ 194 ((11 + l1).toNat))).toNat))) (y := φ 194 ((5 + (φ 194 ((11 + l1).toNat))).toNat)) (by omega) (by omega)
      refine ⟨by omega, by omega, ?_⟩
      have i7 : Inv (hf_up φ 194 ((104 + l1).toNat) (((φ 194 ((104 + l1).toNat)) + (φ 194 ((8 + (φ 194 ((11 + l1).toNat))).toNat))).tmod (φ 194 ((5 + (φ 194 ((11 + l1).toNat))).toNat)))) := iv_upI (s := 104) (t := 112) (lo := 0) (u := 29) (z := 104 + l1) hI (by decide +kernel) (by omega) (by omega) (by omega) (by omega)
      have r7 : Fr [194] φ (hf_up φ 194 ((104 + l1).toNat) (((φ 194 ((104 + l1).toNat)) + (φ 194 ((8 + (φ 194 ((11 + l1).toNat))).toNat))).tmod (φ 194 ((5 + (φ 194 ((11 + l1).toNat))).toNat)))) := fr_upa (fr_rf) (by decide)
      exact ih (hf_up φ 194 ((104 + l1).toNat) (((φ 194 ((104 + l1).toNat)) + (φ 194 ((8 + (φ 194 ((11 + l1).toNat))).toNat))).tmod (φ 194 ((5 + (φ 194 ((11 + l1).toNat))).toNat)))) (jm_st1 L 1 (0, l1 + 1)) (l1 + 1) (get_st1 g0 (by decide) (fun q => tg2 q.2)) get_st1e i7 (by omega) (by omega) (by omega) (fun χ hIχ hFχ hEχ => hQ χ hIχ (fr_tr r7 hFχ (by decide)) (e1b.trans hEχ))
theorem sf_226_192_v {sc : List Int} {d : Nat} {φ : hf_F} {x : Nat} {Q : Option jm_V → hf_F → Nat → Prop} 
    (H : hw sc (d + 2) 226 2 (jm_st1 [(0, (2, 192))] 1 (0, 0)) [] φ x Q) :
    hw sc (d + 2) 226 0 [(0, (2, 192))] [] φ x Q := by
  refine hw_k (c := 0) (b := 0) (e := 1) (by decide +kernel) ?_
  refine hw_st (L' := (jm_st1 [(0, (2, 192))] 1 (0, 0))) (b := 1) (e := 0) (by decide +kernel) rfl ?_
  exact H
theorem sf_226_192 {sc : List Int} {d : Nat} {φ : hf_F} {x : Nat} {Q : Option jm_V → hf_F → Nat → Prop}  (hI : Inv φ)  (hQ : ∀ ψ : hf_F, Inv ψ → Fr [194] φ ψ → F_RideLawsModel_tick_192 φ = ψ → Q none ψ x) : hw sc (d + 2) 226 0 [(0, (2, 192))] [] φ x Q := by
  apply sf_226_192_v
  have e0 : F_RideLawsModel_tick_192 φ = _ := rfl
  exact sf_226_192_l2 ((8 - 0 : Int).toNat + 1) φ (jm_st1 [(0, (2, 192))] 1 (0, 0)) 0 (get_st1 rfl (by decide) (fun q => tg2 q.2)) get_st1e hI (by omega) (by omega) (by omega) (fun χ hIχ hFχ hEχ => hQ χ hIχ (fr_tr (fr_rf) hFχ (by decide)) (e0.trans hEχ))
theorem sf_225_192_v2 {sc : List Int} {d : Nat} {φ : hf_F} {x : Nat} {Q : Option jm_V → hf_F → Nat → Prop} {L : jm_L} {l1 l2 : Int} (g0 : jm_get L 0 = some (2, 192)) (g1 : jm_get L 1 = some (0, l1)) (g2 : jm_get L 2 = some (0, l2))
    (H : hi l2 ∧ hi l1 ∧ (l1 ≤ l2 → Q (some (0, l2)) φ x) ∧ (¬ l1 ≤ l2 → hi 1000 ∧ (1000 ≤ (jm_n (φ 194 99)) → Q (some (0, l2)) φ x) ∧ (¬ 1000 ≤ (jm_n (φ 194 99)) → hw sc (d + 2) 226 0 [(0, (2, 192))] [] φ x (fun r ψ5 y5 => y5 = x ∧ (r = none ∧ (hw sc (d + 3) 225 2 (jm_st1 L 2 (0, l2 + 1)) [] ψ5 x Q)))))) :
    hw sc (d + 3) 225 2 L [] φ x Q := by
  refine hw_ld (b := 2) (e := 0) (by decide +kernel) g2 ?_
  refine hw_ld (b := 1) (e := 0) (by decide +kernel) g1 ?_
  obtain ⟨hz1, hy1, ht1, hf1⟩ := H
  refine hw_if2 (a0 := 0) (b := 3) (e := 30) (by decide +kernel) hz1 hy1 (fun q => ?_) (fun q => ?_)
  · have H := ht1 q
    refine hw_ld (b := 2) (e := 0) (by decide +kernel) g2 ?_
    exact hw_ret (a0 := 0) (e := 0) (by decide +kernel) (Or.inl rfl) H
  · have H := hf1 q
    refine hw_ald (b := 0) (e := 0) (by decide +kernel) g0 (by decide) ?_
    refine hr_gr (w := 194) (b := 12) (e := 6) 192 rfl (by decide +kernel) ?_
    refine hw_k (c := 99) (b := 1) (e := 2) (by decide +kernel) ?_
    refine hr_al (b := 0) (a0 := 0) (e := 0) (n := 361) (w := φ 194 99) 194 rfl (by decide +kernel) (by decide) (by decide) (by decide) rfl ?_
    refine hw_k (c := 1000) (b := 2) (e := 3) (by decide +kernel) ?_
    obtain ⟨hz3, ht3, hf3⟩ := H
    refine hw_if2l (a0 := 0) (b := 3) (e := 30) (by decide +kernel) hz3 (fun q => ?_) (fun q => ?_)
    · have H := ht3 q
      refine hw_ld (b := 2) (e := 0) (by decide +kernel) g2 ?_
      exact hw_ret (a0 := 0) (e := 0) (by decide +kernel) (Or.inl rfl) H
    · have H := hf3 q
      refine hw_ald (b := 0) (e := 0) (by decide +kernel) g0 (by decide) ?_
      refine hr_call (a0 := 22) (b := 226) (e := 1) (nl := 3) (As := []) (R := []) 192 rfl (by decide +kernel) rfl rfl (Nat.le_of_ble_eq_true rfl) (Nat.le_of_ble_eq_true rfl) ?_
      refine hw_mono H ?_
      rintro r ψ5 y5 ⟨hyx, hr, H⟩
      subst hyx
      subst hr
      refine ⟨hnen, ?_⟩
      show hw sc (d + 3) 225 24 L [] ψ5 y5 Q
      refine hw_inc (L' := (jm_st1 L 2 (0, l2 + 1))) (c := 1) (b := 2) (e := 0) (by decide +kernel) g2 rfl ?_
      refine hw_goto (a0 := 0) (b := 0) (e := 2) (by decide +kernel) ?_
      exact H
theorem sf_225_192_l2 {sc : List Int} {d x : Nat} {Q : Option jm_V → hf_F → Nat → Prop} : ∀ (n : Nat) (φ : hf_F) (L : jm_L) (l1 l2 : Int), jm_get L 0 = some (2, 192) → jm_get L 1 = some (0, l1) → jm_get L 2 = some (0, l2) → Inv φ → 8214 - l2 < (n : Int) → (-1 : Int) ≤ l1 → l1 ≤ 8214 → 0 ≤ l2 → l2 ≤ 8214 → (∀ (r : Int) (ψ : hf_F), Inv ψ → Fr [194] φ ψ → True → F_RideLawsModel_goesOn_192_l2 n φ l1 l2 = (r, ψ) → Q (some (0, r)) ψ x) → hw sc (d + 3) 225 2 L [] φ x Q := by
  intro n
  induction n with
  | zero =>
    intro φ L l1 l2 g0 g1 g2 hI hM b1a b1b b2a b2b hQ
    exfalso
    omega
  | succ n ih =>
    intro φ L l1 l2 g0 g1 g2 hI hM b1a b1b b2a b2b hQ
    refine sf_225_192_v2 g0 g1 g2 ?_
    have e0 := F_RideLawsModel_goesOn_192_l2_s (φ := φ) (l1 := l1) (l2 := l2) n
    refine ⟨by unfold hi; omega, by unfold hi; omega, fun q1 => ?_, fun q1 => ?_⟩
    · skip
      have e1a := e0.trans (if_pos q1)
      exact hQ l2 φ hI (fr_rf) trivial e1a
    · skip
      have e1b := e0.trans (if_neg q1)
      have f1 := hr_n (φ 194 99)
      refine ⟨by unfold hi; omega, fun q3 => ?_, fun q3 => ?_⟩
      · skip
        have e3a := e1b.trans (if_pos q3)
        exact hQ l2 φ hI (fr_rf) trivial e3a
      · skip
        have e3b := e1b.trans (if_neg q3)
        refine sf_226_192 (φ := φ) hI  (fun ψ5 hI5 hF5 hE5 => ⟨rfl, rfl, ?_⟩)
        have hG5 : Fr [194] φ ψ5 := fr_tr (fr_rf) hF5 (by decide)
        have e5 := e3b.trans (bnv_e hE5)
        exact ih ψ5 (jm_st1 L 2 (0, l2 + 1)) l1 (l2 + 1) (get_st1 g0 (by decide) (fun q => absurd q.1 (by decide))) (get_st1 g1 (by decide) (fun q => tg0 q.2)) get_st1e hI5 (by omega) (by omega) (by omega) (by omega) (by omega) (fun rr χ hIχ hFχ hpχ hEχ => hQ rr χ hIχ (fr_tr hG5 hFχ (by decide)) hpχ (e5.trans hEχ))
theorem sf_225_192_v {sc : List Int} {d : Nat} {φ : hf_F} {x : Nat} {Q : Option jm_V → hf_F → Nat → Prop} {v1 : Int}
    (H : hw sc (d + 3) 225 2 (jm_st1 [(0, (2, 192)), (1, (0, v1))] 2 (0, 0)) [] φ x Q) :
    hw sc (d + 3) 225 0 [(0, (2, 192)), (1, (0, v1))] [] φ x Q := by
  refine hw_k (c := 0) (b := 0) (e := 1) (by decide +kernel) ?_
  refine hw_st (L' := (jm_st1 [(0, (2, 192)), (1, (0, v1))] 2 (0, 0))) (b := 2) (e := 0) (by decide +kernel) rfl ?_
  exact H
theorem sf_225_192 {sc : List Int} {d : Nat} {φ : hf_F} {x : Nat} {Q : Option jm_V → hf_F → Nat → Prop} {v1 : Int} (hI : Inv φ) (h1a : (-1 : Int) ≤ v1) (h1b : v1 ≤ 8214) (hQ : ∀ (r : Int) (ψ : hf_F), Inv ψ → Fr [194] φ ψ → True → F_RideLawsModel_goesOn_192 φ v1 = (r, ψ) → Q (some (0, r)) ψ x) : hw sc (d + 3) 225 0 [(0, (2, 192)), (1, (0, v1))] [] φ x Q := by
  apply sf_225_192_v
  have e0 : F_RideLawsModel_goesOn_192 φ v1 = _ := rfl
  exact sf_225_192_l2 ((8214 - 0 : Int).toNat + 1) φ (jm_st1 [(0, (2, 192)), (1, (0, v1))] 2 (0, 0)) v1 0 (get_st1 rfl (by decide) (fun q => absurd q.1 (by decide))) (get_st1 rfl (by decide) (fun q => tg0 q.2)) get_st1e hI (by omega) (by omega) (by omega) (by omega) (by omega) (fun rr χ hIχ hFχ hpχ hEχ => hQ rr χ hIχ (fr_tr (fr_rf) hFχ (by decide)) hpχ (e0.trans hEχ))
theorem sf_224_192_v {sc : List Int} {d : Nat} {φ : hf_F} {x : Nat} {Q : Option jm_V → hf_F → Nat → Prop} {v1 : Int}
    (H : hw sc (d + 3) 188 0 [(0, (0, v1)), (1, (0, 1)), (2, (0, 60))] [] (hf_up φ 192 0 0) x (fun r ψ1 y1 => y1 = x ∧ (hf_up φ 192 0 0) = ψ1 ∧ (∃ z1 : Int, r = some (0, z1) ∧ (hi z1 ∧ (¬ z1 = 0 → hi 1000 ∧ (¬ (jm_n (φ 194 99)) = 1000 → hw sc (d + 3) 216 0 [(0, (2, 192))] [] (hf_up φ 192 0 0) x (fun r ψ4 y4 => y4 = x ∧ (r = none ∧ (hw sc (d + 3) 225 0 [(0, (2, 192)), (1, (0, v1))] [] ψ4 x (fun r ψ5 y5 => y5 = x ∧ (∃ z5 : Int, r = some (0, z5) ∧ (Q (some (0, z5)) ψ5 x))))))) ∧ (¬ (¬ (jm_n (φ 194 99)) = 1000) → Q (some (0, 0)) (hf_up φ 192 0 0) x)) ∧ (¬ (¬ z1 = 0) → Q (some (0, (-1 : Int))) (hf_up φ 192 0 0) x))))) :
    hw sc (d + 4) 224 0 [(0, (2, 192)), (1, (0, v1))] [] φ x Q := by
  refine hw_ald (b := 0) (e := 0) (by decide +kernel) rfl (by decide) ?_
  refine hw_k (c := 0) (b := 0) (e := 1) (by decide +kernel) ?_
  refine hr_pi (b := 12) (e := 0) 192 rfl (by decide +kernel) ?_
  refine hw_ld (b := 1) (e := 0) (by decide +kernel) rfl ?_
  refine hw_k (c := 1) (b := 0) (e := 1) (by decide +kernel) ?_
  refine hw_k (c := 60) (b := 1) (e := 2) (by decide +kernel) ?_
  refine hr_calls (b := 188) (e := 3) (nl := 3) (As := [(0, v1), (0, 1), (0, 60)]) (R := []) (by decide +kernel) rfl rfl (Nat.le_of_ble_eq_true rfl) (Nat.le_of_ble_eq_true rfl) ?_
  refine hw_mono H ?_
  rintro r ψ1 y1 ⟨hyx, hψx, z1, hr, H⟩
  subst hyx
  subst hψx
  subst hr
  refine ⟨hne0, ?_⟩
  show hw sc (d + 4) 224 12 [(0, (2, 192)), (1, (0, v1))] [(0, z1)] (hf_up φ 192 0 0) y1 Q
  obtain ⟨hz2, ht2, hf2⟩ := H
  refine hw_if (a0 := 0) (b := 1) (e := 17) (by decide +kernel) hz2 (fun q => ?_) (fun q => ?_)
  · have H := ht2 q
    refine hw_ald (b := 0) (e := 0) (by decide +kernel) rfl (by decide) ?_
    refine hr_gr (w := 194) (b := 12) (e := 6) 192 rfl (by decide +kernel) ?_
    refine hw_k (c := 99) (b := 1) (e := 2) (by decide +kernel) ?_
    refine hr_al (b := 0) (a0 := 0) (e := 0) (n := 361) (w := φ 194 99) 194 rfl (by decide +kernel) (by decide) (by decide) (by decide) (hf_up_ne (fun q => absurd q.1 (by decide))) ?_
    refine hw_k (c := 1000) (b := 2) (e := 3) (by decide +kernel) ?_
    obtain ⟨hz3, ht3, hf3⟩ := H
    refine hw_if2l (a0 := 0) (b := 1) (e := 32) (by decide +kernel) hz3 (fun q => ?_) (fun q => ?_)
    · have H := ht3 q
      refine hw_ald (b := 0) (e := 0) (by decide +kernel) rfl (by decide) ?_
      refine hr_call (a0 := 22) (b := 216) (e := 1) (nl := 2) (As := []) (R := []) 192 rfl (by decide +kernel) rfl rfl (Nat.le_of_ble_eq_true rfl) (Nat.le_of_ble_eq_true rfl) ?_
      refine hw_mono H ?_
      rintro r ψ4 y4 ⟨hyx, hr, H⟩
      subst hyx
      subst hr
      refine ⟨hnen, ?_⟩
      show hw sc (d + 4) 224 36 [(0, (2, 192)), (1, (0, v1))] [] ψ4 y4 Q
      refine hw_ald (b := 0) (e := 0) (by decide +kernel) rfl (by decide) ?_
      refine hw_ld (b := 1) (e := 0) (by decide +kernel) rfl ?_
      refine hr_call (a0 := 22) (b := 225) (e := 2) (nl := 3) (As := [(0, v1)]) (R := []) 192 rfl (by decide +kernel) rfl rfl (Nat.le_of_ble_eq_true rfl) (Nat.le_of_ble_eq_true rfl) ?_
      refine hw_mono H ?_
      rintro r ψ5 y5 ⟨hyx, z5, hr, H⟩
      subst hyx
      subst hr
      refine ⟨hne0, ?_⟩
      show hw sc (d + 4) 224 41 [(0, (2, 192)), (1, (0, v1))] [(0, z5)] ψ5 y5 Q
      exact hw_ret (a0 := 0) (e := 0) (by decide +kernel) (Or.inl rfl) H
    · have H := hf3 q
      refine hw_k (c := 0) (b := 0) (e := 1) (by decide +kernel) ?_
      exact hw_ret (a0 := 0) (e := 0) (by decide +kernel) (Or.inl rfl) H
  · have H := hf2 q
    refine hw_k (c := (-1 : Int)) (b := 0) (e := 1) (by decide +kernel) ?_
    exact hw_ret (a0 := 0) (e := 0) (by decide +kernel) (Or.inl rfl) H
theorem sf_224_192 {sc : List Int} {d : Nat} {φ : hf_F} {x : Nat} {Q : Option jm_V → hf_F → Nat → Prop} {v1 : Int} (hI : Inv φ) (h1a : (-2147483648 : Int) ≤ v1) (h1b : v1 ≤ 2147483647) (hQ : ∀ (r : Int) (ψ : hf_F), Inv ψ → Fr [194, 199, 193000, 193022] φ ψ → True → F_RideLawsModel_ticks_192 φ v1 = (r, ψ) → Q (some (0, r)) ψ x) : hw sc (d + 4) 224 0 [(0, (2, 192)), (1, (0, v1))] [] φ x Q := by
  apply sf_224_192_v
  have e0 : F_RideLawsModel_ticks_192 φ v1 = _ := rfl
  have i1 : Inv (hf_up φ 192 0 0) := iv_up (lo := 0) (u := 1) hI (by decide +kernel) (by omega) (by omega)
  have r1 : Fr [194, 199, 193000, 193022] φ (hf_up φ 192 0 0) := fr_up (fr_rf) (by decide)
  refine sf_188 (φ := (hf_up φ 192 0 0)) i1 (by omega) (by omega) (by omega) (by omega) (by omega) (by omega) (fun z1 hp1 hE1 => ⟨rfl, rfl, z1, rfl, ?_⟩)
  have e1 := e0.trans (bnp_e hE1)
  refine ⟨by unfold hi; omega, fun q2 => ?_, fun q2 => ?_⟩
  · skip
    have e2a := e1.trans (if_pos q2)
    have f2 := hr_n (φ 194 99)
    refine ⟨by unfold hi; omega, fun q3 => ?_, fun q3 => ?_⟩
    · skip
      have e3a := e2a.trans (if_pos q3)
      refine sf_216_192 (φ := (hf_up φ 192 0 0)) i1  (fun ψ4 hI4 hF4 hV4 hE4 => ⟨rfl, rfl, ?_⟩)
      have hG4 : Fr [194, 199, 193000, 193022] φ ψ4 := fr_tr r1 hF4 (by decide)
      have f3 := iv_at (a := 192) (k := 22) (lo := 0) (u := 8) hI4 (by decide +kernel)
      have e4 := e3a.trans (bnv_e hE4)
      refine sf_225_192 (φ := ψ4) hI4 (by omega) (by omega) (fun z5 ψ5 hI5 hF5 hp5 hE5 => ⟨rfl, z5, rfl, ?_⟩)
      have hG5 : Fr [194, 199, 193000, 193022] φ ψ5 := fr_tr hG4 hF5 (by decide)
      have e5 := e4.trans (bnd_e hE5)
      exact hQ z5 ψ5 hI5 hG5 trivial e5
    · skip
      have e3b := e2a.trans (if_neg q3)
      exact hQ 0 (hf_up φ 192 0 0) i1 r1 trivial e3b
  · skip
    have e2b := e1.trans (if_neg q2)
    exact hQ (-1 : Int) (hf_up φ 192 0 0) i1 r1 trivial e2b
theorem sf_230_192_v {sc : List Int} {d : Nat} {φ : hf_F} {x : Nat} {Q : Option jm_V → hf_F → Nat → Prop} {v1 v2 : Int}
    (H : 0 ≤ (104 + v1) ∧ (104 + v1) < 361 ∧ (0 ≤ (11 + v1) ∧ (11 + v1) < 361 ∧ (0 ≤ (8 + (φ 194 ((11 + v1).toNat))) ∧ (8 + (φ 194 ((11 + v1).toNat))) < 361 ∧ (0 ≤ (11 + v1) ∧ (11 + v1) < 361 ∧ (0 ≤ (5 + (φ 194 ((11 + v1).toNat))) ∧ (5 + (φ 194 ((11 + v1).toNat))) < 361 ∧ (¬ jm_n (φ 194 ((5 + (φ 194 ((11 + v1).toNat))).toNat)) = 0 ∧ (Q (some (0, (jm_n ((φ 194 ((104 + v1).toNat)) + (v2 * (φ 194 ((8 + (φ 194 ((11 + v1).toNat))).toNat))))).tmod (jm_n (φ 194 ((5 + (φ 194 ((11 + v1).toNat))).toNat))))) φ x))))))) :
    hw sc d 230 0 [(0, (2, 192)), (1, (0, v1)), (2, (0, v2))] [] φ x Q := by
  refine hw_ald (b := 0) (e := 0) (by decide +kernel) rfl (by decide) ?_
  refine hr_gr (w := 194) (b := 12) (e := 6) 192 rfl (by decide +kernel) ?_
  refine hw_k (c := 104) (b := 1) (e := 2) (by decide +kernel) ?_
  refine hw_ld (b := 1) (e := 0) (by decide +kernel) rfl ?_
  refine hw_bin (w := 104 + v1) (a0 := 0) (b := 0) (e := 0) (by decide +kernel) rfl ?_
  obtain ⟨hl1, hu1, H⟩ := H
  refine hr_al (b := 0) (a0 := 0) (e := 0) (n := 361) (w := φ 194 ((104 + v1).toNat)) 194 rfl (by decide +kernel) (by decide) hl1 hu1 rfl ?_
  refine hw_ld (b := 2) (e := 0) (by decide +kernel) rfl ?_
  refine hw_ald (b := 0) (e := 0) (by decide +kernel) rfl (by decide) ?_
  refine hr_gr (w := 194) (b := 12) (e := 6) 192 rfl (by decide +kernel) ?_
  refine hw_k (c := 8) (b := 1) (e := 2) (by decide +kernel) ?_
  refine hw_ald (b := 0) (e := 0) (by decide +kernel) rfl (by decide) ?_
  refine hr_gr (w := 194) (b := 12) (e := 6) 192 rfl (by decide +kernel) ?_
  refine hw_k (c := 11) (b := 1) (e := 2) (by decide +kernel) ?_
  refine hw_ld (b := 1) (e := 0) (by decide +kernel) rfl ?_
  refine hw_bin (w := 11 + v1) (a0 := 0) (b := 0) (e := 0) (by decide +kernel) rfl ?_
  obtain ⟨hl2, hu2, H⟩ := H
  refine hr_al (b := 0) (a0 := 0) (e := 0) (n := 361) (w := φ 194 ((11 + v1).toNat)) 194 rfl (by decide +kernel) (by decide) hl2 hu2 rfl ?_
  refine hw_bin (w := 8 + (φ 194 ((11 + v1).toNat))) (a0 := 0) (b := 0) (e := 0) (by decide +kernel) rfl ?_
  obtain ⟨hl3, hu3, H⟩ := H
  refine hr_al (b := 0) (a0 := 0) (e := 0) (n := 361) (w := φ 194 ((8 + (φ 194 ((11 + v1).toNat))).toNat)) 194 rfl (by decide +kernel) (by decide) hl3 hu3 rfl ?_
  refine hw_bin (w := v2 * (φ 194 ((8 + (φ 194 ((11 + v1).toNat))).toNat))) (a0 := 0) (b := 2) (e := 0) (by decide +kernel) rfl ?_
  refine hw_bin (w := (φ 194 ((104 + v1).toNat)) + (v2 * (φ 194 ((8 + (φ 194 ((11 + v1).toNat))).toNat)))) (a0 := 0) (b := 0) (e := 0) (by decide +kernel) rfl ?_
  refine hw_ald (b := 0) (e := 0) (by decide +kernel) rfl (by decide) ?_
  refine hr_gr (w := 194) (b := 12) (e := 6) 192 rfl (by decide +kernel) ?_
  refine hw_k (c := 5) (b := 0) (e := 1) (by decide +kernel) ?_
  refine hw_ald (b := 0) (e := 0) (by decide +kernel) rfl (by decide) ?_
  refine hr_gr (w := 194) (b := 12) (e := 6) 192 rfl (by decide +kernel) ?_
  refine hw_k (c := 11) (b := 1) (e := 2) (by decide +kernel) ?_
  refine hw_ld (b := 1) (e := 0) (by decide +kernel) rfl ?_
  refine hw_bin (w := 11 + v1) (a0 := 0) (b := 0) (e := 0) (by decide +kernel) rfl ?_
  obtain ⟨hl4, hu4, H⟩ := H
  refine hr_al (b := 0) (a0 := 0) (e := 0) (n := 361) (w := φ 194 ((11 + v1).toNat)) 194 rfl (by decide +kernel) (by decide) hl4 hu4 rfl ?_
  refine hw_bin (w := 5 + (φ 194 ((11 + v1).toNat))) (a0 := 0) (b := 0) (e := 0) (by decide +kernel) rfl ?_
  obtain ⟨hl5, hu5, H⟩ := H
  refine hr_al (b := 0) (a0 := 0) (e := 0) (n := 361) (w := φ 194 ((5 + (φ 194 ((11 + v1).toNat))).toNat)) 194 rfl (by decide +kernel) (by decide) hl5 hu5 rfl ?_
  obtain ⟨hn6, H⟩ := H
  refine hw_bin (w := (jm_n ((φ 194 ((104 + v1).toNat)) + (v2 * (φ 194 ((8 + (φ 194 ((11 + v1).toNat))).toNat))))).tmod (jm_n (φ 194 ((5 + (φ 194 ((11 + v1).toNat))).toNat)))) (a0 := 0) (b := 10) (e := 0) (by decide +kernel) (hb_remn hn6) ?_
  exact hw_ret (a0 := 0) (e := 0) (by decide +kernel) (Or.inl rfl) H
theorem sf_230_192 {sc : List Int} {d : Nat} {φ : hf_F} {x : Nat} {Q : Option jm_V → hf_F → Nat → Prop} {v1 v2 : Int} (hI : Inv φ) (h1a : 0 ≤ v1) (h1b : v1 ≤ 7) (h2a : 0 ≤ v2) (h2b : v2 ≤ 900) (hp0 : v1 < φ 194 1) (hQ : ∀ (r : Int), True → F_RideLawsModel_stepIn_192 φ v1 v2 = r → Q (some (0, r)) φ x) : hw sc d 230 0 [(0, (2, 192)), (1, (0, v1)), (2, (0, v2))] [] φ x Q := by
  apply sf_230_192_v
  have ffm0 := rs_f hI v1
  have e0 : F_RideLawsModel_stepIn_192 φ v1 v2 = _ := rfl
  refine ⟨by omega, by omega, ?_⟩
  have f1 := iv_ar (a := 194) (s := 104) (t := 112) (lo := 0) (u := 29) (z := 104 + v1) hI (by decide +kernel) (by omega) (by omega)
  refine ⟨by omega, by omega, ?_⟩
  have f2 := iv_ar (a := 194) (s := 11) (t := 19) (lo := 0) (u := 2) (z := 11 + v1) hI (by decide +kernel) (by omega) (by omega)
  refine ⟨by omega, by omega, ?_⟩
  have f3 := iv_ar (a := 194) (s := 8) (t := 11) (lo := 0) (u := 9) (z := 8 + (φ 194 ((11 + v1).toNat))) hI (by decide +kernel) (by omega) (by omega)
  refine ⟨by omega, by omega, ?_⟩
  refine ⟨by omega, by omega, ?_⟩
  have f4 := iv_ar (a := 194) (s := 5) (t := 8) (lo := 0) (u := 30) (z := 5 + (φ 194 ((11 + v1).toNat))) hI (by decide +kernel) (by omega) (by omega)
  have f5 := hr_n (φ 194 ((5 + (φ 194 ((11 + v1).toNat))).toNat))
  have f6 := hi_n (z := φ 194 ((5 + (φ 194 ((11 + v1).toNat))).toNat)) (by unfold hi; omega)
  have f7 := hr_n ((φ 194 ((104 + v1).toNat)) + (v2 * (φ 194 ((8 + (φ 194 ((11 + v1).toNat))).toNat))))
  refine ⟨by omega, ?_⟩
  have f8 := hr_tmodn ((φ 194 ((104 + v1).toNat)) + (v2 * (φ 194 ((8 + (φ 194 ((11 + v1).toNat))).toNat)))) (φ 194 ((5 + (φ 194 ((11 + v1).toNat))).toNat)) (by omega)
  exact hQ ((jm_n ((φ 194 ((104 + v1).toNat)) + (v2 * (φ 194 ((8 + (φ 194 ((11 + v1).toNat))).toNat))))).tmod (jm_n (φ 194 ((5 + (φ 194 ((11 + v1).toNat))).toNat)))) trivial e0
theorem sf_229_192_v17 {sc : List Int} {d : Nat} {φ : hf_F} {x : Nat} {Q : Option jm_V → hf_F → Nat → Prop} {L : jm_L} {l1 l2 : Int} (g0 : jm_get L 0 = some (2, 192)) (g1 : jm_get L 1 = some (0, l1)) (g2 : jm_get L 2 = some (0, l2))
    (H : hi l2 ∧ hi 30 ∧ (30 ≤ l2 → Q (some (0, (-1 : Int))) φ x) ∧ (¬ 30 ≤ l2 → hw sc (d + 1) 230 0 [(0, (2, 192)), (1, (0, l1)), (2, (0, l2))] [] φ x (fun r ψ3 y3 => y3 = x ∧ φ = ψ3 ∧ (∃ z3 : Int, r = some (0, z3) ∧ ((¬ (jm_n z3) = 0 → hw sc (d + 2) 229 17 (jm_st1 L 2 (0, l2 + 1)) [] φ x Q) ∧ (¬ (¬ (jm_n z3) = 0) → Q (some (0, l2)) φ x)))))) :
    hw sc (d + 2) 229 17 L [] φ x Q := by
  refine hw_ld (b := 2) (e := 0) (by decide +kernel) g2 ?_
  refine hw_k (c := 30) (b := 1) (e := 2) (by decide +kernel) ?_
  obtain ⟨hz1, hy1, ht1, hf1⟩ := H
  refine hw_if2 (a0 := 0) (b := 3) (e := 40) (by decide +kernel) hz1 hy1 (fun q => ?_) (fun q => ?_)
  · have H := ht1 q
    refine hw_k (c := (-1 : Int)) (b := 0) (e := 1) (by decide +kernel) ?_
    exact hw_ret (a0 := 0) (e := 0) (by decide +kernel) (Or.inl rfl) H
  · have H := hf1 q
    refine hw_ald (b := 0) (e := 0) (by decide +kernel) g0 (by decide) ?_
    refine hw_ld (b := 1) (e := 0) (by decide +kernel) g1 ?_
    refine hw_ld (b := 2) (e := 0) (by decide +kernel) g2 ?_
    refine hr_call (a0 := 22) (b := 230) (e := 3) (nl := 3) (As := [(0, l1), (0, l2)]) (R := []) 192 rfl (by decide +kernel) rfl rfl (Nat.le_of_ble_eq_true rfl) (Nat.le_of_ble_eq_true rfl) ?_
    refine hw_mono H ?_
    rintro r ψ3 y3 ⟨hyx, hψx, z3, hr, H⟩
    subst hyx
    subst hψx
    subst hr
    refine ⟨hne0, ?_⟩
    show hw sc (d + 2) 229 29 L [(0, z3)] φ y3 Q
    obtain ⟨ht4, hf4⟩ := H
    refine hw_ifn (a0 := 0) (b := 1) (e := 34) (by decide +kernel) (fun q => ?_) (fun q => ?_)
    · have H := ht4 q
      refine hw_inc (L' := (jm_st1 L 2 (0, l2 + 1))) (c := 1) (b := 2) (e := 0) (by decide +kernel) g2 rfl ?_
      refine hw_goto (a0 := 0) (b := 0) (e := 17) (by decide +kernel) ?_
      exact H
    · have H := hf4 q
      refine hw_ld (b := 2) (e := 0) (by decide +kernel) g2 ?_
      exact hw_ret (a0 := 0) (e := 0) (by decide +kernel) (Or.inl rfl) H
theorem sf_229_192_l17 {sc : List Int} {d x : Nat} {Q : Option jm_V → hf_F → Nat → Prop} : ∀ (n : Nat) (φ : hf_F) (L : jm_L) (l1 l2 : Int), jm_get L 0 = some (2, 192) → jm_get L 1 = some (0, l1) → jm_get L 2 = some (0, l2) → Inv φ → 30 - l2 < (n : Int) → 0 ≤ l1 → l1 ≤ 7 → 0 ≤ l2 → l2 ≤ 30 → l1 < φ 194 1 → (∀ (r : Int) (ψ : hf_F), Inv ψ → Fr [193000] φ ψ → True → F_RideLawsModel_comes_192_l17 n φ l1 l2 = (r, ψ) → Q (some (0, r)) ψ x) → hw sc (d + 2) 229 17 L [] φ x Q := by
  intro n
  induction n with
  | zero =>
    intro φ L l1 l2 g0 g1 g2 hI hM b1a b1b b2a b2b c0 hQ
    exfalso
    omega
  | succ n ih =>
    intro φ L l1 l2 g0 g1 g2 hI hM b1a b1b b2a b2b c0 hQ
    refine sf_229_192_v17 g0 g1 g2 ?_
    have e0 := F_RideLawsModel_comes_192_l17_s (φ := φ) (l1 := l1) (l2 := l2) n
    refine ⟨by unfold hi; omega, by unfold hi; omega, fun q1 => ?_, fun q1 => ?_⟩
    · skip
      have e1a := e0.trans (if_pos q1)
      exact hQ (-1 : Int) φ hI (fr_rf) trivial e1a
    · skip
      have e1b := e0.trans (if_neg q1)
      have f1 := iv_at (a := 194) (k := 1) (lo := 0) (u := 8) hI (by decide +kernel)
      refine sf_230_192 (φ := φ) hI (by omega) (by omega) (by omega) (by omega) (by omega) (fun z3 hp3 hE3 => ⟨rfl, rfl, z3, rfl, ?_⟩)
      have e3 := e1b.trans (bnp_e hE3)
      have f2 := hr_n z3
      refine ⟨fun q4 => ?_, fun q4 => ?_⟩
      · skip
        have e4a := e3.trans (if_pos q4)
        exact ih φ (jm_st1 L 2 (0, l2 + 1)) l1 (l2 + 1) (get_st1 g0 (by decide) (fun q => absurd q.1 (by decide))) (get_st1 g1 (by decide) (fun q => tg0 q.2)) get_st1e hI (by omega) (by omega) (by omega) (by omega) (by omega) (by omega) (fun rr χ hIχ hFχ hpχ hEχ => hQ rr χ hIχ (fr_tr (fr_rf) hFχ (by decide)) hpχ (e4a.trans hEχ))
      · skip
        have e4b := e3.trans (if_neg q4)
        exact hQ l2 φ hI (fr_rf) trivial e4b
theorem sf_229_192_v {sc : List Int} {d : Nat} {φ : hf_F} {x : Nat} {Q : Option jm_V → hf_F → Nat → Prop} {v1 : Int}
    (H : hw sc (d + 1) 208 0 [(0, (2, 192)), (1, (0, v1))] [] (hf_up φ 192 0 0) x (fun r ψ1 y1 => y1 = x ∧ (hf_up φ 192 0 0) = ψ1 ∧ (∃ z1 : Int, r = some (0, z1) ∧ (hi z1 ∧ (¬ z1 = 0 → hw sc (d + 2) 229 17 (jm_st1 [(0, (2, 192)), (1, (0, v1))] 2 (0, 0)) [] (hf_up φ 192 0 0) x Q) ∧ (¬ (¬ z1 = 0) → Q (some (0, (-1 : Int))) (hf_up φ 192 0 0) x))))) :
    hw sc (d + 2) 229 0 [(0, (2, 192)), (1, (0, v1))] [] φ x Q := by
  refine hw_ald (b := 0) (e := 0) (by decide +kernel) rfl (by decide) ?_
  refine hw_k (c := 0) (b := 0) (e := 1) (by decide +kernel) ?_
  refine hr_pi (b := 12) (e := 0) 192 rfl (by decide +kernel) ?_
  refine hw_ald (b := 0) (e := 0) (by decide +kernel) rfl (by decide) ?_
  refine hw_ld (b := 1) (e := 0) (by decide +kernel) rfl ?_
  refine hr_call (a0 := 22) (b := 208) (e := 2) (nl := 2) (As := [(0, v1)]) (R := []) 192 rfl (by decide +kernel) rfl rfl (Nat.le_of_ble_eq_true rfl) (Nat.le_of_ble_eq_true rfl) ?_
  refine hw_mono H ?_
  rintro r ψ1 y1 ⟨hyx, hψx, z1, hr, H⟩
  subst hyx
  subst hψx
  subst hr
  refine ⟨hne0, ?_⟩
  show hw sc (d + 2) 229 10 [(0, (2, 192)), (1, (0, v1))] [(0, z1)] (hf_up φ 192 0 0) y1 Q
  obtain ⟨hz2, ht2, hf2⟩ := H
  refine hw_if (a0 := 0) (b := 1) (e := 15) (by decide +kernel) hz2 (fun q => ?_) (fun q => ?_)
  · have H := ht2 q
    refine hw_k (c := 0) (b := 0) (e := 1) (by decide +kernel) ?_
    refine hw_st (L' := (jm_st1 [(0, (2, 192)), (1, (0, v1))] 2 (0, 0))) (b := 2) (e := 0) (by decide +kernel) rfl ?_
    exact H
  · have H := hf2 q
    refine hw_k (c := (-1 : Int)) (b := 0) (e := 1) (by decide +kernel) ?_
    exact hw_ret (a0 := 0) (e := 0) (by decide +kernel) (Or.inl rfl) H
theorem sf_229_192 {sc : List Int} {d : Nat} {φ : hf_F} {x : Nat} {Q : Option jm_V → hf_F → Nat → Prop} {v1 : Int} (hI : Inv φ) (h1a : (-2147483648 : Int) ≤ v1) (h1b : v1 ≤ 2147483647) (hQ : ∀ (r : Int) (ψ : hf_F), Inv ψ → Fr [193000] φ ψ → True → F_RideLawsModel_comes_192 φ v1 = (r, ψ) → Q (some (0, r)) ψ x) : hw sc (d + 2) 229 0 [(0, (2, 192)), (1, (0, v1))] [] φ x Q := by
  apply sf_229_192_v
  have e0 : F_RideLawsModel_comes_192 φ v1 = _ := rfl
  have i1 : Inv (hf_up φ 192 0 0) := iv_up (lo := 0) (u := 1) hI (by decide +kernel) (by omega) (by omega)
  have r1 : Fr [193000] φ (hf_up φ 192 0 0) := fr_up (fr_rf) (by decide)
  refine sf_208_192 (φ := (hf_up φ 192 0 0)) i1 (by omega) (by omega) (fun z1 hp1 hE1 => ⟨rfl, rfl, z1, rfl, ?_⟩)
  have e1 := e0.trans (bnp_e hE1)
  have f2 : (hf_up φ 192 0 0) 194 1 = φ 194 1 := (hf_up_ne (fun q => absurd q.1 (by decide)))
  have f3 := iv_at (a := 194) (k := 1) (lo := 0) (u := 8) hI (by decide +kernel)
  refine ⟨by unfold hi; omega, fun q2 => ?_, fun q2 => ?_⟩
  · skip
    have e2a := e1.trans (if_pos q2)
    exact sf_229_192_l17 ((30 - 0 : Int).toNat + 1) (hf_up φ 192 0 0) (jm_st1 [(0, (2, 192)), (1, (0, v1))] 2 (0, 0)) v1 0 (get_st1 rfl (by decide) (fun q => absurd q.1 (by decide))) (get_st1 rfl (by decide) (fun q => tg0 q.2)) get_st1e i1 (by omega) (by omega) (by omega) (by omega) (by omega) (by omega) (fun rr χ hIχ hFχ hpχ hEχ => hQ rr χ hIχ (fr_tr r1 hFχ (by decide)) hpχ (e2a.trans hEχ))
  · skip
    have e2b := e1.trans (if_neg q2)
    exact hQ (-1 : Int) (hf_up φ 192 0 0) i1 r1 trivial e2b
theorem sf_231_192_v30 {sc : List Int} {d : Nat} {φ : hf_F} {x : Nat} {Q : Option jm_V → hf_F → Nat → Prop} {L : jm_L} {l1 l2 l3 : Int} (g0 : jm_get L 0 = some (2, 192)) (g1 : jm_get L 1 = some (0, l1)) (g2 : jm_get L 2 = some (0, l2)) (g3 : jm_get L 3 = some (0, l3))
    (H : hi l3 ∧ hi 900 ∧ (900 ≤ l3 → Q (some (0, (-1 : Int))) φ x) ∧ (¬ 900 ≤ l3 → hw sc (d + 1) 230 0 [(0, (2, 192)), (1, (0, l1)), (2, (0, l3))] [] φ x (fun r ψ3 y3 => y3 = x ∧ φ = ψ3 ∧ (∃ z3 : Int, r = some (0, z3) ∧ ((¬ (jm_n z3) = 0 → hw sc (d + 2) 231 30 (jm_st1 L 3 (0, l3 + 1)) [] φ x Q) ∧ (¬ (¬ (jm_n z3) = 0) → hw sc (d + 1) 230 0 [(0, (2, 192)), (1, (0, l2)), (2, (0, l3))] [] φ x (fun r ψ5 y5 => y5 = x ∧ φ = ψ5 ∧ (∃ z5 : Int, r = some (0, z5) ∧ ((¬ (jm_n z5) = 0 → hw sc (d + 2) 231 30 (jm_st1 L 3 (0, l3 + 1)) [] φ x Q) ∧ (¬ (¬ (jm_n z5) = 0) → Q (some (0, l3)) φ x)))))))))) :
    hw sc (d + 2) 231 30 L [] φ x Q := by
  refine hw_ld (b := 3) (e := 0) (by decide +kernel) g3 ?_
  refine hw_k (c := 900) (b := 2) (e := 3) (by decide +kernel) ?_
  obtain ⟨hz1, hy1, ht1, hf1⟩ := H
  refine hw_if2 (a0 := 0) (b := 3) (e := 63) (by decide +kernel) hz1 hy1 (fun q => ?_) (fun q => ?_)
  · have H := ht1 q
    refine hw_k (c := (-1 : Int)) (b := 0) (e := 1) (by decide +kernel) ?_
    exact hw_ret (a0 := 0) (e := 0) (by decide +kernel) (Or.inl rfl) H
  · have H := hf1 q
    refine hw_ald (b := 0) (e := 0) (by decide +kernel) g0 (by decide) ?_
    refine hw_ld (b := 1) (e := 0) (by decide +kernel) g1 ?_
    refine hw_ld (b := 3) (e := 0) (by decide +kernel) g3 ?_
    refine hr_call (a0 := 22) (b := 230) (e := 3) (nl := 3) (As := [(0, l1), (0, l3)]) (R := []) 192 rfl (by decide +kernel) rfl rfl (Nat.le_of_ble_eq_true rfl) (Nat.le_of_ble_eq_true rfl) ?_
    refine hw_mono H ?_
    rintro r ψ3 y3 ⟨hyx, hψx, z3, hr, H⟩
    subst hyx
    subst hψx
    subst hr
    refine ⟨hne0, ?_⟩
    show hw sc (d + 2) 231 43 L [(0, z3)] φ y3 Q
    obtain ⟨ht4, hf4⟩ := H
    refine hw_ifn (a0 := 0) (b := 1) (e := 57) (by decide +kernel) (fun q => ?_) (fun q => ?_)
    · have H := ht4 q
      refine hw_inc (L' := (jm_st1 L 3 (0, l3 + 1))) (c := 1) (b := 3) (e := 0) (by decide +kernel) g3 rfl ?_
      refine hw_goto (a0 := 0) (b := 0) (e := 30) (by decide +kernel) ?_
      exact H
    · have H := hf4 q
      refine hw_ald (b := 0) (e := 0) (by decide +kernel) g0 (by decide) ?_
      refine hw_ld (b := 2) (e := 0) (by decide +kernel) g2 ?_
      refine hw_ld (b := 3) (e := 0) (by decide +kernel) g3 ?_
      refine hr_call (a0 := 22) (b := 230) (e := 3) (nl := 3) (As := [(0, l2), (0, l3)]) (R := []) 192 rfl (by decide +kernel) rfl rfl (Nat.le_of_ble_eq_true rfl) (Nat.le_of_ble_eq_true rfl) ?_
      refine hw_mono H ?_
      rintro r ψ5 y5 ⟨hyx, hψx, z5, hr, H⟩
      subst hyx
      subst hψx
      subst hr
      refine ⟨hne0, ?_⟩
      show hw sc (d + 2) 231 52 L [(0, z5)] φ y5 Q
      obtain ⟨ht6, hf6⟩ := H
      refine hw_ifn (a0 := 0) (b := 1) (e := 57) (by decide +kernel) (fun q => ?_) (fun q => ?_)
      · have H := ht6 q
        refine hw_inc (L' := (jm_st1 L 3 (0, l3 + 1))) (c := 1) (b := 3) (e := 0) (by decide +kernel) g3 rfl ?_
        refine hw_goto (a0 := 0) (b := 0) (e := 30) (by decide +kernel) ?_
        exact H
      · have H := hf6 q
        refine hw_ld (b := 3) (e := 0) (by decide +kernel) g3 ?_
        exact hw_ret (a0 := 0) (e := 0) (by decide +kernel) (Or.inl rfl) H
theorem sf_231_192_l30 {sc : List Int} {d x : Nat} {Q : Option jm_V → hf_F → Nat → Prop} : ∀ (n : Nat) (φ : hf_F) (L : jm_L) (l1 l2 l3 : Int), jm_get L 0 = some (2, 192) → jm_get L 1 = some (0, l1) → jm_get L 2 = some (0, l2) → jm_get L 3 = some (0, l3) → Inv φ → 900 - l3 < (n : Int) → 0 ≤ l1 → l1 ≤ 7 → 0 ≤ l2 → l2 ≤ 7 → 0 ≤ l3 → l3 ≤ 900 → l1 < φ 194 1 → l2 < φ 194 1 → (∀ (r : Int) (ψ : hf_F), Inv ψ → Fr [193000] φ ψ → True → F_RideLawsModel_both_192_l30 n φ l1 l2 l3 = (r, ψ) → Q (some (0, r)) ψ x) → hw sc (d + 2) 231 30 L [] φ x Q := by
  intro n
  induction n with
  | zero =>
    intro φ L l1 l2 l3 g0 g1 g2 g3 hI hM b1a b1b b2a b2b b3a b3b c0 c1 hQ
    exfalso
    omega
  | succ n ih =>
    intro φ L l1 l2 l3 g0 g1 g2 g3 hI hM b1a b1b b2a b2b b3a b3b c0 c1 hQ
    refine sf_231_192_v30 g0 g1 g2 g3 ?_
    have e0 := F_RideLawsModel_both_192_l30_s (φ := φ) (l1 := l1) (l2 := l2) (l3 := l3) n
    refine ⟨by unfold hi; omega, by unfold hi; omega, fun q1 => ?_, fun q1 => ?_⟩
    · skip
      have e1a := e0.trans (if_pos q1)
      exact hQ (-1 : Int) φ hI (fr_rf) trivial e1a
    · skip
      have e1b := e0.trans (if_neg q1)
      have f1 := iv_at (a := 194) (k := 1) (lo := 0) (u := 8) hI (by decide +kernel)
      refine sf_230_192 (φ := φ) hI (by omega) (by omega) (by omega) (by omega) (by omega) (fun z3 hp3 hE3 => ⟨rfl, rfl, z3, rfl, ?_⟩)
      have e3 := e1b.trans (bnp_e hE3)
      have f2 := hr_n z3
      refine ⟨fun q4 => ?_, fun q4 => ?_⟩
      · skip
        have e4a := e3.trans (if_pos q4)
        exact ih φ (jm_st1 L 3 (0, l3 + 1)) l1 l2 (l3 + 1) (get_st1 g0 (by decide) (fun q => absurd q.1 (by decide))) (get_st1 g1 (by decide) (fun q => absurd q.1 (by decide))) (get_st1 g2 (by decide) (fun q => tg0 q.2)) get_st1e hI (by omega) (by omega) (by omega) (by omega) (by omega) (by omega) (by omega) (by omega) (by omega) (fun rr χ hIχ hFχ hpχ hEχ => hQ rr χ hIχ (fr_tr (fr_rf) hFχ (by decide)) hpχ (e4a.trans hEχ))
      · skip
        have e4b := e3.trans (if_neg q4)
        refine sf_230_192 (φ := φ) hI (by omega) (by omega) (by omega) (by omega) (by omega) (fun z5 hp5 hE5 => ⟨rfl, rfl, z5, rfl, ?_⟩)
        have e5 := e4b.trans (bnp_e hE5)
        have f3 := hr_n z5
        refine ⟨fun q6 => ?_, fun q6 => ?_⟩
        · skip
          have e6a := e5.trans (if_pos q6)
          exact ih φ (jm_st1 L 3 (0, l3 + 1)) l1 l2 (l3 + 1) (get_st1 g0 (by decide) (fun q => absurd q.1 (by decide))) (get_st1 g1 (by decide) (fun q => absurd q.1 (by decide))) (get_st1 g2 (by decide) (fun q => tg0 q.2)) get_st1e hI (by omega) (by omega) (by omega) (by omega) (by omega) (by omega) (by omega) (by omega) (by omega) (fun rr χ hIχ hFχ hpχ hEχ => hQ rr χ hIχ (fr_tr (fr_rf) hFχ (by decide)) hpχ (e6a.trans hEχ))
        · skip
          have e6b := e5.trans (if_neg q6)
          exact hQ l3 φ hI (fr_rf) trivial e6b
theorem sf_231_192_v {sc : List Int} {d : Nat} {φ : hf_F} {x : Nat} {Q : Option jm_V → hf_F → Nat → Prop} {v1 v2 : Int}
    (H : hw sc (d + 1) 208 0 [(0, (2, 192)), (1, (0, v1))] [] (hf_up φ 192 0 0) x (fun r ψ1 y1 => y1 = x ∧ (hf_up φ 192 0 0) = ψ1 ∧ (∃ z1 : Int, r = some (0, z1) ∧ (hi z1 ∧ (z1 = 0 → Q (some (0, (-1 : Int))) (hf_up φ 192 0 0) x) ∧ (¬ z1 = 0 → hw sc (d + 1) 208 0 [(0, (2, 192)), (1, (0, v2))] [] (hf_up φ 192 0 0) x (fun r ψ4 y4 => y4 = x ∧ (hf_up φ 192 0 0) = ψ4 ∧ (∃ z4 : Int, r = some (0, z4) ∧ (hi z4 ∧ (z4 = 0 → Q (some (0, (-1 : Int))) (hf_up φ 192 0 0) x) ∧ (¬ z4 = 0 → hi v1 ∧ hi v2 ∧ (¬ v1 = v2 → hw sc (d + 2) 231 30 (jm_st1 [(0, (2, 192)), (1, (0, v1)), (2, (0, v2))] 3 (0, 0)) [] (hf_up φ 192 0 0) x Q) ∧ (¬ (¬ v1 = v2) → Q (some (0, (-1 : Int))) (hf_up φ 192 0 0) x)))))))))) :
    hw sc (d + 2) 231 0 [(0, (2, 192)), (1, (0, v1)), (2, (0, v2))] [] φ x Q := by
  refine hw_ald (b := 0) (e := 0) (by decide +kernel) rfl (by decide) ?_
  refine hw_k (c := 0) (b := 0) (e := 1) (by decide +kernel) ?_
  refine hr_pi (b := 12) (e := 0) 192 rfl (by decide +kernel) ?_
  refine hw_ald (b := 0) (e := 0) (by decide +kernel) rfl (by decide) ?_
  refine hw_ld (b := 1) (e := 0) (by decide +kernel) rfl ?_
  refine hr_call (a0 := 22) (b := 208) (e := 2) (nl := 2) (As := [(0, v1)]) (R := []) 192 rfl (by decide +kernel) rfl rfl (Nat.le_of_ble_eq_true rfl) (Nat.le_of_ble_eq_true rfl) ?_
  refine hw_mono H ?_
  rintro r ψ1 y1 ⟨hyx, hψx, z1, hr, H⟩
  subst hyx
  subst hψx
  subst hr
  refine ⟨hne0, ?_⟩
  show hw sc (d + 2) 231 10 [(0, (2, 192)), (1, (0, v1)), (2, (0, v2))] [(0, z1)] (hf_up φ 192 0 0) y1 Q
  obtain ⟨hz2, ht2, hf2⟩ := H
  refine hw_if (a0 := 0) (b := 0) (e := 26) (by decide +kernel) hz2 (fun q => ?_) (fun q => ?_)
  · have H := ht2 q
    refine hw_k (c := (-1 : Int)) (b := 0) (e := 1) (by decide +kernel) ?_
    exact hw_ret (a0 := 0) (e := 0) (by decide +kernel) (Or.inl rfl) H
  · have H := hf2 q
    refine hw_ald (b := 0) (e := 0) (by decide +kernel) rfl (by decide) ?_
    refine hw_ld (b := 2) (e := 0) (by decide +kernel) rfl ?_
    refine hr_call (a0 := 22) (b := 208) (e := 2) (nl := 2) (As := [(0, v2)]) (R := []) 192 rfl (by decide +kernel) rfl rfl (Nat.le_of_ble_eq_true rfl) (Nat.le_of_ble_eq_true rfl) ?_
    refine hw_mono H ?_
    rintro r ψ4 y4 ⟨hyx, hψx, z4, hr, H⟩
    subst hyx
    subst hψx
    subst hr
    refine ⟨hne0, ?_⟩
    show hw sc (d + 2) 231 18 [(0, (2, 192)), (1, (0, v1)), (2, (0, v2))] [(0, z4)] (hf_up φ 192 0 0) y4 Q
    obtain ⟨hz5, ht5, hf5⟩ := H
    refine hw_if (a0 := 0) (b := 0) (e := 26) (by decide +kernel) hz5 (fun q => ?_) (fun q => ?_)
    · have H := ht5 q
      refine hw_k (c := (-1 : Int)) (b := 0) (e := 1) (by decide +kernel) ?_
      exact hw_ret (a0 := 0) (e := 0) (by decide +kernel) (Or.inl rfl) H
    · have H := hf5 q
      refine hw_ld (b := 1) (e := 0) (by decide +kernel) rfl ?_
      refine hw_ld (b := 2) (e := 0) (by decide +kernel) rfl ?_
      obtain ⟨hz7, hy7, ht7, hf7⟩ := H
      refine hw_if2 (a0 := 0) (b := 1) (e := 28) (by decide +kernel) hz7 hy7 (fun q => ?_) (fun q => ?_)
      · have H := ht7 q
        refine hw_k (c := 0) (b := 0) (e := 1) (by decide +kernel) ?_
        refine hw_st (L' := (jm_st1 [(0, (2, 192)), (1, (0, v1)), (2, (0, v2))] 3 (0, 0))) (b := 3) (e := 0) (by decide +kernel) rfl ?_
        exact H
      · have H := hf7 q
        refine hw_k (c := (-1 : Int)) (b := 0) (e := 1) (by decide +kernel) ?_
        exact hw_ret (a0 := 0) (e := 0) (by decide +kernel) (Or.inl rfl) H
theorem sf_231_192 {sc : List Int} {d : Nat} {φ : hf_F} {x : Nat} {Q : Option jm_V → hf_F → Nat → Prop} {v1 v2 : Int} (hI : Inv φ) (h1a : (-2147483648 : Int) ≤ v1) (h1b : v1 ≤ 2147483647) (h2a : (-2147483648 : Int) ≤ v2) (h2b : v2 ≤ 2147483647) (hQ : ∀ (r : Int) (ψ : hf_F), Inv ψ → Fr [193000] φ ψ → True → F_RideLawsModel_both_192 φ v1 v2 = (r, ψ) → Q (some (0, r)) ψ x) : hw sc (d + 2) 231 0 [(0, (2, 192)), (1, (0, v1)), (2, (0, v2))] [] φ x Q := by
  apply sf_231_192_v
  have e0 : F_RideLawsModel_both_192 φ v1 v2 = _ := rfl
  have i1 : Inv (hf_up φ 192 0 0) := iv_up (lo := 0) (u := 1) hI (by decide +kernel) (by omega) (by omega)
  have r1 : Fr [193000] φ (hf_up φ 192 0 0) := fr_up (fr_rf) (by decide)
  refine sf_208_192 (φ := (hf_up φ 192 0 0)) i1 (by omega) (by omega) (fun z1 hp1 hE1 => ⟨rfl, rfl, z1, rfl, ?_⟩)
  have e1 := e0.trans (bnp_e hE1)
  have f2 : (hf_up φ 192 0 0) 194 1 = φ 194 1 := (hf_up_ne (fun q => absurd q.1 (by decide)))
  have f3 := iv_at (a := 194) (k := 1) (lo := 0) (u := 8) hI (by decide +kernel)
  refine ⟨by unfold hi; omega, fun q2 => ?_, fun q2 => ?_⟩
  · skip
    have e2a := e1.trans (if_pos q2)
    exact hQ (-1 : Int) (hf_up φ 192 0 0) i1 r1 trivial e2a
  · skip
    have e2b := e1.trans (if_neg q2)
    refine sf_208_192 (φ := (hf_up φ 192 0 0)) i1 (by omega) (by omega) (fun z4 hp4 hE4 => ⟨rfl, rfl, z4, rfl, ?_⟩)
    have e4 := e2b.trans (bnp_e hE4)
    refine ⟨by unfold hi; omega, fun q5 => ?_, fun q5 => ?_⟩
    · skip
      have e5a := e4.trans (if_pos q5)
      exact hQ (-1 : Int) (hf_up φ 192 0 0) i1 r1 trivial e5a
    · skip
      have e5b := e4.trans (if_neg q5)
      refine ⟨by unfold hi; omega, by unfold hi; omega, fun q7 => ?_, fun q7 => ?_⟩
      · skip
        have e7a := e5b.trans (if_pos q7)
        exact sf_231_192_l30 ((900 - 0 : Int).toNat + 1) (hf_up φ 192 0 0) (jm_st1 [(0, (2, 192)), (1, (0, v1)), (2, (0, v2))] 3 (0, 0)) v1 v2 0 (get_st1 rfl (by decide) (fun q => absurd q.1 (by decide))) (get_st1 rfl (by decide) (fun q => absurd q.1 (by decide))) (get_st1 rfl (by decide) (fun q => tg0 q.2)) get_st1e i1 (by omega) (by omega) (by omega) (by omega) (by omega) (by omega) (by omega) (by omega) (by omega) (fun rr χ hIχ hFχ hpχ hEχ => hQ rr χ hIχ (fr_tr r1 hFχ (by decide)) hpχ (e7a.trans hEχ))
      · skip
        have e7b := e5b.trans (if_neg q7)
        exact hQ (-1 : Int) (hf_up φ 192 0 0) i1 r1 trivial e7b
theorem sf_234_192_v28 {sc : List Int} {d : Nat} {φ : hf_F} {x : Nat} {Q : Option jm_V → hf_F → Nat → Prop} {L : jm_L} {l1 l2 l3 l4 l5 : Int} (g0 : jm_get L 0 = some (2, 192)) (g1 : jm_get L 1 = some (0, l1)) (g2 : jm_get L 2 = some (0, l2)) (g3 : jm_get L 3 = some (0, l3)) (g4 : jm_get L 4 = some (0, l4)) (g5 : jm_get L 5 = some (0, l5))
    (H : hi l5 ∧ hi l3 ∧ (l3 < l5 → hw sc (d + 2) 235 0 [(0, (2, 192))] [] φ x (fun r ψ2 y2 => y2 = x ∧ (r = none ∧ (Q (some (0, l4)) ψ2 x)))) ∧ (¬ l3 < l5 → hi l4 ∧ (0 ≤ l4 → hw sc (d + 2) 235 0 [(0, (2, 192))] [] φ x (fun r ψ5 y5 => y5 = x ∧ (r = none ∧ (Q (some (0, l4)) ψ5 x)))) ∧ (¬ 0 ≤ l4 → hw sc (d + 2) 226 0 [(0, (2, 192))] [] φ x (fun r ψ7 y7 => y7 = x ∧ (r = none ∧ (hw sc (d + 2) 197 0 [(0, (0, ψ7 194 102)), (1, (0, l1))] [] ψ7 x (fun r ψ8 y8 => y8 = x ∧ ψ7 = ψ8 ∧ (∃ z8 : Int, r = some (0, z8) ∧ (hi z8 ∧ (z8 = 0 → hw sc (d + 3) 234 28 (jm_st1 L 5 (0, l5 + 1)) [] ψ7 x Q) ∧ (¬ z8 = 0 → hw sc (d + 3) 234 28 (jm_st1 (jm_st1 L 4 (0, l5)) 5 (0, l5 + 1)) [] ψ7 x Q)))))))))) :
    hw sc (d + 3) 234 28 L [] φ x Q := by
  refine hw_ld (b := 5) (e := 1) (by decide +kernel) g5 ?_
  refine hw_ld (b := 3) (e := 0) (by decide +kernel) g3 ?_
  obtain ⟨hz1, hy1, ht1, hf1⟩ := H
  refine hw_if2 (a0 := 0) (b := 4) (e := 67) (by decide +kernel) hz1 hy1 (fun q => ?_) (fun q => ?_)
  · have H := ht1 q
    refine hw_ald (b := 0) (e := 0) (by decide +kernel) g0 (by decide) ?_
    refine hr_call (a0 := 22) (b := 235) (e := 1) (nl := 2) (As := []) (R := []) 192 rfl (by decide +kernel) rfl rfl (Nat.le_of_ble_eq_true rfl) (Nat.le_of_ble_eq_true rfl) ?_
    refine hw_mono H ?_
    rintro r ψ2 y2 ⟨hyx, hr, H⟩
    subst hyx
    subst hr
    refine ⟨hnen, ?_⟩
    show hw sc (d + 3) 234 71 L [] ψ2 y2 Q
    refine hw_ld (b := 4) (e := 1) (by decide +kernel) g4 ?_
    exact hw_ret (a0 := 0) (e := 0) (by decide +kernel) (Or.inl rfl) H
  · have H := hf1 q
    refine hw_ld (b := 4) (e := 1) (by decide +kernel) g4 ?_
    obtain ⟨hz4, ht4, hf4⟩ := H
    refine hw_if (a0 := 0) (b := 3) (e := 67) (by decide +kernel) hz4 (fun q => ?_) (fun q => ?_)
    · have H := ht4 q
      refine hw_ald (b := 0) (e := 0) (by decide +kernel) g0 (by decide) ?_
      refine hr_call (a0 := 22) (b := 235) (e := 1) (nl := 2) (As := []) (R := []) 192 rfl (by decide +kernel) rfl rfl (Nat.le_of_ble_eq_true rfl) (Nat.le_of_ble_eq_true rfl) ?_
      refine hw_mono H ?_
      rintro r ψ5 y5 ⟨hyx, hr, H⟩
      subst hyx
      subst hr
      refine ⟨hnen, ?_⟩
      show hw sc (d + 3) 234 71 L [] ψ5 y5 Q
      refine hw_ld (b := 4) (e := 1) (by decide +kernel) g4 ?_
      exact hw_ret (a0 := 0) (e := 0) (by decide +kernel) (Or.inl rfl) H
    · have H := hf4 q
      refine hw_ald (b := 0) (e := 0) (by decide +kernel) g0 (by decide) ?_
      refine hr_call (a0 := 22) (b := 226) (e := 1) (nl := 3) (As := []) (R := []) 192 rfl (by decide +kernel) rfl rfl (Nat.le_of_ble_eq_true rfl) (Nat.le_of_ble_eq_true rfl) ?_
      refine hw_mono H ?_
      rintro r ψ7 y7 ⟨hyx, hr, H⟩
      subst hyx
      subst hr
      refine ⟨hnen, ?_⟩
      show hw sc (d + 3) 234 43 L [] ψ7 y7 Q
      refine hw_ald (b := 0) (e := 0) (by decide +kernel) g0 (by decide) ?_
      refine hr_gr (w := 194) (b := 12) (e := 6) 192 rfl (by decide +kernel) ?_
      refine hw_k (c := 102) (b := 1) (e := 2) (by decide +kernel) ?_
      refine hr_al (b := 0) (a0 := 0) (e := 0) (n := 361) (w := ψ7 194 102) 194 rfl (by decide +kernel) (by decide) (by decide) (by decide) rfl ?_
      refine hw_ld (b := 1) (e := 0) (by decide +kernel) g1 ?_
      refine hr_calls (b := 197) (e := 2) (nl := 2) (As := [(0, ψ7 194 102), (0, l1)]) (R := []) (by decide +kernel) rfl rfl (Nat.le_of_ble_eq_true rfl) (Nat.le_of_ble_eq_true rfl) ?_
      refine hw_mono H ?_
      rintro r ψ8 y8 ⟨hyx, hψx, z8, hr, H⟩
      subst hyx
      subst hψx
      subst hr
      refine ⟨hne0, ?_⟩
      show hw sc (d + 3) 234 54 L [(0, z8)] ψ7 y8 Q
      obtain ⟨hz9, ht9, hf9⟩ := H
      refine hw_if (a0 := 0) (b := 0) (e := 61) (by decide +kernel) hz9 (fun q => ?_) (fun q => ?_)
      · have H := ht9 q
        refine hw_inc (L' := (jm_st1 L 5 (0, l5 + 1))) (c := 1) (b := 5) (e := 0) (by decide +kernel) g5 rfl ?_
        refine hw_goto (a0 := 0) (b := 0) (e := 28) (by decide +kernel) ?_
        exact H
      · have H := hf9 q
        refine hw_ld (b := 5) (e := 1) (by decide +kernel) g5 ?_
        refine hw_st (L' := (jm_st1 L 4 (0, l5))) (b := 4) (e := 1) (by decide +kernel) rfl ?_
        refine hw_inc (L' := (jm_st1 (jm_st1 L 4 (0, l5)) 5 (0, l5 + 1))) (c := 1) (b := 5) (e := 0) (by decide +kernel) (get_st1 g5 (by decide) (fun q => absurd q.1 (by decide))) rfl ?_
        refine hw_goto (a0 := 0) (b := 0) (e := 28) (by decide +kernel) ?_
        exact H
theorem sf_234_192_l28 {sc : List Int} {d x : Nat} {Q : Option jm_V → hf_F → Nat → Prop} : ∀ (n : Nat) (φ : hf_F) (L : jm_L) (l1 l2 l3 l4 l5 : Int), jm_get L 0 = some (2, 192) → jm_get L 1 = some (0, l1) → jm_get L 2 = some (0, l2) → jm_get L 3 = some (0, l3) → jm_get L 4 = some (0, l4) → jm_get L 5 = some (0, l5) → Inv φ → 301 - l5 < (n : Int) → 0 ≤ l1 → l1 ≤ 7 → 0 ≤ l2 → l2 ≤ 1 → 0 ≤ l3 → l3 ≤ 300 → (-1 : Int) ≤ l4 → l4 ≤ 300 → 1 ≤ l5 → l5 ≤ 301 → (∀ (r : Int) (ψ : hf_F), Inv ψ → Fr [194] φ ψ → (-1 : Int) ≤ r ∧ r ≤ 300 → F_RideLawsModel_holdsIn_192_l28 n φ l1 l2 l3 l4 l5 = (r, ψ) → Q (some (0, r)) ψ x) → hw sc (d + 3) 234 28 L [] φ x Q := by
  intro n
  induction n with
  | zero =>
    intro φ L l1 l2 l3 l4 l5 g0 g1 g2 g3 g4 g5 hI hM b1a b1b b2a b2b b3a b3b b4a b4b b5a b5b hQ
    exfalso
    omega
  | succ n ih =>
    intro φ L l1 l2 l3 l4 l5 g0 g1 g2 g3 g4 g5 hI hM b1a b1b b2a b2b b3a b3b b4a b4b b5a b5b hQ
    refine sf_234_192_v28 g0 g1 g2 g3 g4 g5 ?_
    have e0 := F_RideLawsModel_holdsIn_192_l28_s (φ := φ) (l1 := l1) (l2 := l2) (l3 := l3) (l4 := l4) (l5 := l5) n
    refine ⟨by unfold hi; omega, by unfold hi; omega, fun q1 => ?_, fun q1 => ?_⟩
    · skip
      have e1a := e0.trans (if_pos q1)
      refine sf_235_192 (φ := φ) hI  (fun ψ2 hI2 hF2 hE2 => ⟨rfl, rfl, ?_⟩)
      have hG2 : Fr [194] φ ψ2 := fr_tr (fr_rf) hF2 (by decide)
      have e2 := e1a.trans (bnv_e hE2)
      exact hQ l4 ψ2 hI2 hG2 ⟨by omega, by omega⟩ e2
    · skip
      have e1b := e0.trans (if_neg q1)
      refine ⟨by unfold hi; omega, fun q4 => ?_, fun q4 => ?_⟩
      · skip
        have e4a := e1b.trans (if_pos q4)
        refine sf_235_192 (φ := φ) hI  (fun ψ5 hI5 hF5 hE5 => ⟨rfl, rfl, ?_⟩)
        have hG5 : Fr [194] φ ψ5 := fr_tr (fr_rf) hF5 (by decide)
        have e5 := e4a.trans (bnv_e hE5)
        exact hQ l4 ψ5 hI5 hG5 ⟨by omega, by omega⟩ e5
      · skip
        have e4b := e1b.trans (if_neg q4)
        refine sf_226_192 (φ := φ) hI  (fun ψ7 hI7 hF7 hE7 => ⟨rfl, rfl, ?_⟩)
        have hG7 : Fr [194] φ ψ7 := fr_tr (fr_rf) hF7 (by decide)
        have e7 := e4b.trans (bnv_e hE7)
        have f1 := iv_at (a := 194) (k := 102) (lo := (-2147483648 : Int)) (u := 2147483647) hI7 (by decide +kernel)
        refine sf_197 (φ := ψ7) hI7  (fun z8 hp8 hE8 => ⟨rfl, rfl, z8, rfl, ?_⟩)
        have e8 := e7.trans (bnp_e hE8)
        refine ⟨by unfold hi; omega, fun q9 => ?_, fun q9 => ?_⟩
        · skip
          have e9a := e8.trans (if_pos q9)
          exact ih ψ7 (jm_st1 L 5 (0, l5 + 1)) l1 l2 l3 l4 (l5 + 1) (get_st1 g0 (by decide) (fun q => absurd q.1 (by decide))) (get_st1 g1 (by decide) (fun q => absurd q.1 (by decide))) (get_st1 g2 (by decide) (fun q => absurd q.1 (by decide))) (get_st1 g3 (by decide) (fun q => absurd q.1 (by decide))) (get_st1 g4 (by decide) (fun q => tg0 q.2)) get_st1e hI7 (by omega) (by omega) (by omega) (by omega) (by omega) (by omega) (by omega) (by omega) (by omega) (by omega) (by omega) (fun rr χ hIχ hFχ hpχ hEχ => hQ rr χ hIχ (fr_tr hG7 hFχ (by decide)) hpχ (e9a.trans hEχ))
        · skip
          have e9b := e8.trans (if_neg q9)
          exact ih ψ7 (jm_st1 (jm_st1 L 4 (0, l5)) 5 (0, l5 + 1)) l1 l2 l3 l5 (l5 + 1) (get_st1 (get_st1 g0 (by decide) (fun q => absurd q.1 (by decide))) (by decide) (fun q => absurd q.1 (by decide))) (get_st1 (get_st1 g1 (by decide) (fun q => absurd q.1 (by decide))) (by decide) (fun q => absurd q.1 (by decide))) (get_st1 (get_st1 g2 (by decide) (fun q => absurd q.1 (by decide))) (by decide) (fun q => absurd q.1 (by decide))) (get_st1 (get_st1 g3 (by decide) (fun q => tg0 q.2)) (by decide) (fun q => absurd q.1 (by decide))) (get_st1 get_st1e (by decide) (fun q => tg0 q.2)) get_st1e hI7 (by omega) (by omega) (by omega) (by omega) (by omega) (by omega) (by omega) (by omega) (by omega) (by omega) (by omega) (fun rr χ hIχ hFχ hpχ hEχ => hQ rr χ hIχ (fr_tr hG7 hFχ (by decide)) hpχ (e9b.trans hEχ))
theorem sf_234_192_v {sc : List Int} {d : Nat} {φ : hf_F} {x : Nat} {Q : Option jm_V → hf_F → Nat → Prop} {v1 v2 v3 : Int}
    (H : hi v2 ∧ (¬ v2 = 0 → hw sc (d + 3) 234 28 (jm_st1 (jm_st1 [(0, (2, 192)), (1, (0, v1)), (2, (0, v2)), (3, (0, v3))] 4 (0, (-1 : Int))) 5 (0, 1)) [] φ x Q) ∧ (¬ (¬ v2 = 0) → hw sc (d + 2) 197 0 [(0, (0, φ 194 102)), (1, (0, v1))] [] φ x (fun r ψ2 y2 => y2 = x ∧ φ = ψ2 ∧ (∃ z2 : Int, r = some (0, z2) ∧ (hi z2 ∧ (z2 = 0 → hw sc (d + 3) 234 28 (jm_st1 (jm_st1 [(0, (2, 192)), (1, (0, v1)), (2, (0, v2)), (3, (0, v3))] 4 (0, (-1 : Int))) 5 (0, 1)) [] φ x Q) ∧ (¬ z2 = 0 → hw sc (d + 3) 234 28 (jm_st1 (jm_st1 [(0, (2, 192)), (1, (0, v1)), (2, (0, v2)), (3, (0, v3))] 4 (0, 0)) 5 (0, 1)) [] φ x Q)))))) :
    hw sc (d + 3) 234 0 [(0, (2, 192)), (1, (0, v1)), (2, (0, v2)), (3, (0, v3))] [] φ x Q := by
  refine hw_ld (b := 2) (e := 0) (by decide +kernel) rfl ?_
  obtain ⟨hz1, ht1, hf1⟩ := H
  refine hw_if (a0 := 0) (b := 1) (e := 22) (by decide +kernel) hz1 (fun q => ?_) (fun q => ?_)
  · have H := ht1 q
    refine hw_k (c := (-1 : Int)) (b := 0) (e := 1) (by decide +kernel) ?_
    refine hw_st (L' := (jm_st1 [(0, (2, 192)), (1, (0, v1)), (2, (0, v2)), (3, (0, v3))] 4 (0, (-1 : Int)))) (b := 4) (e := 1) (by decide +kernel) rfl ?_
    refine hw_k (c := 1) (b := 0) (e := 1) (by decide +kernel) ?_
    refine hw_st (L' := (jm_st1 (jm_st1 [(0, (2, 192)), (1, (0, v1)), (2, (0, v2)), (3, (0, v3))] 4 (0, (-1 : Int))) 5 (0, 1))) (b := 5) (e := 1) (by decide +kernel) rfl ?_
    exact H
  · have H := hf1 q
    refine hw_ald (b := 0) (e := 0) (by decide +kernel) rfl (by decide) ?_
    refine hr_gr (w := 194) (b := 12) (e := 6) 192 rfl (by decide +kernel) ?_
    refine hw_k (c := 102) (b := 1) (e := 2) (by decide +kernel) ?_
    refine hr_al (b := 0) (a0 := 0) (e := 0) (n := 361) (w := φ 194 102) 194 rfl (by decide +kernel) (by decide) (by decide) (by decide) rfl ?_
    refine hw_ld (b := 1) (e := 0) (by decide +kernel) rfl ?_
    refine hr_calls (b := 197) (e := 2) (nl := 2) (As := [(0, φ 194 102), (0, v1)]) (R := []) (by decide +kernel) rfl rfl (Nat.le_of_ble_eq_true rfl) (Nat.le_of_ble_eq_true rfl) ?_
    refine hw_mono H ?_
    rintro r ψ2 y2 ⟨hyx, hψx, z2, hr, H⟩
    subst hyx
    subst hψx
    subst hr
    refine ⟨hne0, ?_⟩
    show hw sc (d + 3) 234 15 [(0, (2, 192)), (1, (0, v1)), (2, (0, v2)), (3, (0, v3))] [(0, z2)] φ y2 Q
    obtain ⟨hz3, ht3, hf3⟩ := H
    refine hw_if (a0 := 0) (b := 0) (e := 22) (by decide +kernel) hz3 (fun q => ?_) (fun q => ?_)
    · have H := ht3 q
      refine hw_k (c := (-1 : Int)) (b := 0) (e := 1) (by decide +kernel) ?_
      refine hw_st (L' := (jm_st1 [(0, (2, 192)), (1, (0, v1)), (2, (0, v2)), (3, (0, v3))] 4 (0, (-1 : Int)))) (b := 4) (e := 1) (by decide +kernel) rfl ?_
      refine hw_k (c := 1) (b := 0) (e := 1) (by decide +kernel) ?_
      refine hw_st (L' := (jm_st1 (jm_st1 [(0, (2, 192)), (1, (0, v1)), (2, (0, v2)), (3, (0, v3))] 4 (0, (-1 : Int))) 5 (0, 1))) (b := 5) (e := 1) (by decide +kernel) rfl ?_
      exact H
    · have H := hf3 q
      refine hw_k (c := 0) (b := 0) (e := 1) (by decide +kernel) ?_
      refine hw_goto (a0 := 0) (b := 0) (e := 23) (by decide +kernel) ?_
      refine hw_st (L' := (jm_st1 [(0, (2, 192)), (1, (0, v1)), (2, (0, v2)), (3, (0, v3))] 4 (0, 0))) (b := 4) (e := 1) (by decide +kernel) rfl ?_
      refine hw_k (c := 1) (b := 0) (e := 1) (by decide +kernel) ?_
      refine hw_st (L' := (jm_st1 (jm_st1 [(0, (2, 192)), (1, (0, v1)), (2, (0, v2)), (3, (0, v3))] 4 (0, 0)) 5 (0, 1))) (b := 5) (e := 1) (by decide +kernel) rfl ?_
      exact H
theorem sf_234_192 {sc : List Int} {d : Nat} {φ : hf_F} {x : Nat} {Q : Option jm_V → hf_F → Nat → Prop} {v1 v2 v3 : Int} (hI : Inv φ) (h1a : 0 ≤ v1) (h1b : v1 ≤ 7) (h2a : 0 ≤ v2) (h2b : v2 ≤ 1) (h3a : 0 ≤ v3) (h3b : v3 ≤ 300) (hQ : ∀ (r : Int) (ψ : hf_F), Inv ψ → Fr [194] φ ψ → (-1 : Int) ≤ r ∧ r ≤ 300 → F_RideLawsModel_holdsIn_192 φ v1 v2 v3 = (r, ψ) → Q (some (0, r)) ψ x) : hw sc (d + 3) 234 0 [(0, (2, 192)), (1, (0, v1)), (2, (0, v2)), (3, (0, v3))] [] φ x Q := by
  apply sf_234_192_v
  have e0 : F_RideLawsModel_holdsIn_192 φ v1 v2 v3 = _ := rfl
  refine ⟨by unfold hi; omega, fun q1 => ?_, fun q1 => ?_⟩
  · skip
    have e1a := e0.trans (if_pos q1)
    exact sf_234_192_l28 ((301 - 1 : Int).toNat + 1) φ (jm_st1 (jm_st1 [(0, (2, 192)), (1, (0, v1)), (2, (0, v2)), (3, (0, v3))] 4 (0, (-1 : Int))) 5 (0, 1)) v1 v2 v3 (-1 : Int) 1 (get_st1 (get_st1 rfl (by decide) (fun q => absurd q.1 (by decide))) (by decide) (fun q => absurd q.1 (by decide))) (get_st1 (get_st1 rfl (by decide) (fun q => absurd q.1 (by decide))) (by decide) (fun q => absurd q.1 (by decide))) (get_st1 (get_st1 rfl (by decide) (fun q => absurd q.1 (by decide))) (by decide) (fun q => absurd q.1 (by decide))) (get_st1 (get_st1 rfl (by decide) (fun q => tg0 q.2)) (by decide) (fun q => absurd q.1 (by decide))) (get_st1 get_st1e (by decide) (fun q => tg0 q.2)) get_st1e hI (by omega) (by omega) (by omega) (by omega) (by omega) (by omega) (by omega) (by omega) (by omega) (by omega) (by omega) (fun rr χ hIχ hFχ hpχ hEχ => hQ rr χ hIχ (fr_tr (fr_rf) hFχ (by decide)) hpχ (e1a.trans hEχ))
  · skip
    have e1b := e0.trans (if_neg q1)
    have f1 := iv_at (a := 194) (k := 102) (lo := (-2147483648 : Int)) (u := 2147483647) hI (by decide +kernel)
    refine sf_197 (φ := φ) hI  (fun z2 hp2 hE2 => ⟨rfl, rfl, z2, rfl, ?_⟩)
    have e2 := e1b.trans (bnp_e hE2)
    refine ⟨by unfold hi; omega, fun q3 => ?_, fun q3 => ?_⟩
    · skip
      have e3a := e2.trans (if_pos q3)
      exact sf_234_192_l28 ((301 - 1 : Int).toNat + 1) φ (jm_st1 (jm_st1 [(0, (2, 192)), (1, (0, v1)), (2, (0, v2)), (3, (0, v3))] 4 (0, (-1 : Int))) 5 (0, 1)) v1 v2 v3 (-1 : Int) 1 (get_st1 (get_st1 rfl (by decide) (fun q => absurd q.1 (by decide))) (by decide) (fun q => absurd q.1 (by decide))) (get_st1 (get_st1 rfl (by decide) (fun q => absurd q.1 (by decide))) (by decide) (fun q => absurd q.1 (by decide))) (get_st1 (get_st1 rfl (by decide) (fun q => absurd q.1 (by decide))) (by decide) (fun q => absurd q.1 (by decide))) (get_st1 (get_st1 rfl (by decide) (fun q => tg0 q.2)) (by decide) (fun q => absurd q.1 (by decide))) (get_st1 get_st1e (by decide) (fun q => tg0 q.2)) get_st1e hI (by omega) (by omega) (by omega) (by omega) (by omega) (by omega) (by omega) (by omega) (by omega) (by omega) (by omega) (fun rr χ hIχ hFχ hpχ hEχ => hQ rr χ hIχ (fr_tr (fr_rf) hFχ (by decide)) hpχ (e3a.trans hEχ))
    · skip
      have e3b := e2.trans (if_neg q3)
      exact sf_234_192_l28 ((301 - 1 : Int).toNat + 1) φ (jm_st1 (jm_st1 [(0, (2, 192)), (1, (0, v1)), (2, (0, v2)), (3, (0, v3))] 4 (0, 0)) 5 (0, 1)) v1 v2 v3 0 1 (get_st1 (get_st1 rfl (by decide) (fun q => absurd q.1 (by decide))) (by decide) (fun q => absurd q.1 (by decide))) (get_st1 (get_st1 rfl (by decide) (fun q => absurd q.1 (by decide))) (by decide) (fun q => absurd q.1 (by decide))) (get_st1 (get_st1 rfl (by decide) (fun q => absurd q.1 (by decide))) (by decide) (fun q => absurd q.1 (by decide))) (get_st1 (get_st1 rfl (by decide) (fun q => tg0 q.2)) (by decide) (fun q => absurd q.1 (by decide))) (get_st1 get_st1e (by decide) (fun q => tg0 q.2)) get_st1e hI (by omega) (by omega) (by omega) (by omega) (by omega) (by omega) (by omega) (by omega) (by omega) (by omega) (by omega) (fun rr χ hIχ hFχ hpχ hEχ => hQ rr χ hIχ (fr_tr (fr_rf) hFχ (by decide)) hpχ (e3b.trans hEχ))
theorem sf_232_192_v {sc : List Int} {d : Nat} {φ : hf_F} {x : Nat} {Q : Option jm_V → hf_F → Nat → Prop} {v1 : Int}
    (H : hw sc (d + 3) 211 0 [(0, (2, 192)), (1, (0, v1))] [] (hf_up φ 192 0 0) x (fun r ψ1 y1 => y1 = x ∧ (hf_up φ 192 0 0) = ψ1 ∧ (∃ z1 : Int, r = some (0, z1) ∧ (hi z1 ∧ (¬ z1 = 0 → hw sc (d + 3) 233 0 [(0, (2, 192))] [] (hf_up φ 192 0 0) x (fun r ψ3 y3 => y3 = x ∧ (r = none ∧ (hw sc (d + 3) 234 0 [(0, (2, 192)), (1, (0, v1)), (2, (0, 0)), (3, (0, 300))] [] ψ3 x (fun r ψ4 y4 => y4 = x ∧ (∃ z4 : Int, r = some (0, z4) ∧ (Q (some (0, z4)) ψ4 x))))))) ∧ (¬ (¬ z1 = 0) → Q (some (0, (-1 : Int))) (hf_up φ 192 0 0) x))))) :
    hw sc (d + 4) 232 0 [(0, (2, 192)), (1, (0, v1))] [] φ x Q := by
  refine hw_ald (b := 0) (e := 0) (by decide +kernel) rfl (by decide) ?_
  refine hw_k (c := 0) (b := 0) (e := 1) (by decide +kernel) ?_
  refine hr_pi (b := 12) (e := 0) 192 rfl (by decide +kernel) ?_
  refine hw_ald (b := 0) (e := 0) (by decide +kernel) rfl (by decide) ?_
  refine hw_ld (b := 1) (e := 0) (by decide +kernel) rfl ?_
  refine hr_call (a0 := 22) (b := 211) (e := 2) (nl := 2) (As := [(0, v1)]) (R := []) 192 rfl (by decide +kernel) rfl rfl (Nat.le_of_ble_eq_true rfl) (Nat.le_of_ble_eq_true rfl) ?_
  refine hw_mono H ?_
  rintro r ψ1 y1 ⟨hyx, hψx, z1, hr, H⟩
  subst hyx
  subst hψx
  subst hr
  refine ⟨hne0, ?_⟩
  show hw sc (d + 4) 232 10 [(0, (2, 192)), (1, (0, v1))] [(0, z1)] (hf_up φ 192 0 0) y1 Q
  obtain ⟨hz2, ht2, hf2⟩ := H
  refine hw_if (a0 := 0) (b := 1) (e := 15) (by decide +kernel) hz2 (fun q => ?_) (fun q => ?_)
  · have H := ht2 q
    refine hw_ald (b := 0) (e := 0) (by decide +kernel) rfl (by decide) ?_
    refine hr_call (a0 := 22) (b := 233) (e := 1) (nl := 2) (As := []) (R := []) 192 rfl (by decide +kernel) rfl rfl (Nat.le_of_ble_eq_true rfl) (Nat.le_of_ble_eq_true rfl) ?_
    refine hw_mono H ?_
    rintro r ψ3 y3 ⟨hyx, hr, H⟩
    subst hyx
    subst hr
    refine ⟨hnen, ?_⟩
    show hw sc (d + 4) 232 19 [(0, (2, 192)), (1, (0, v1))] [] ψ3 y3 Q
    refine hw_ald (b := 0) (e := 0) (by decide +kernel) rfl (by decide) ?_
    refine hw_ld (b := 1) (e := 0) (by decide +kernel) rfl ?_
    refine hw_k (c := 0) (b := 0) (e := 1) (by decide +kernel) ?_
    refine hw_k (c := 300) (b := 2) (e := 3) (by decide +kernel) ?_
    refine hr_call (a0 := 22) (b := 234) (e := 4) (nl := 6) (As := [(0, v1), (0, 0), (0, 300)]) (R := []) 192 rfl (by decide +kernel) rfl rfl (Nat.le_of_ble_eq_true rfl) (Nat.le_of_ble_eq_true rfl) ?_
    refine hw_mono H ?_
    rintro r ψ4 y4 ⟨hyx, z4, hr, H⟩
    subst hyx
    subst hr
    refine ⟨hne0, ?_⟩
    show hw sc (d + 4) 232 28 [(0, (2, 192)), (1, (0, v1))] [(0, z4)] ψ4 y4 Q
    exact hw_ret (a0 := 0) (e := 0) (by decide +kernel) (Or.inl rfl) H
  · have H := hf2 q
    refine hw_k (c := (-1 : Int)) (b := 0) (e := 1) (by decide +kernel) ?_
    exact hw_ret (a0 := 0) (e := 0) (by decide +kernel) (Or.inl rfl) H
theorem sf_232_192 {sc : List Int} {d : Nat} {φ : hf_F} {x : Nat} {Q : Option jm_V → hf_F → Nat → Prop} {v1 : Int} (hI : Inv φ) (h1a : (-2147483648 : Int) ≤ v1) (h1b : v1 ≤ 2147483647) (hQ : ∀ (r : Int) (ψ : hf_F), Inv ψ → Fr [194, 200, 193000] φ ψ → True → F_RideLawsModel_holds_192 φ v1 = (r, ψ) → Q (some (0, r)) ψ x) : hw sc (d + 4) 232 0 [(0, (2, 192)), (1, (0, v1))] [] φ x Q := by
  apply sf_232_192_v
  have e0 : F_RideLawsModel_holds_192 φ v1 = _ := rfl
  have i1 : Inv (hf_up φ 192 0 0) := iv_up (lo := 0) (u := 1) hI (by decide +kernel) (by omega) (by omega)
  have r1 : Fr [194, 200, 193000] φ (hf_up φ 192 0 0) := fr_up (fr_rf) (by decide)
  refine sf_211_192 (φ := (hf_up φ 192 0 0)) i1 (by omega) (by omega) (fun z1 hp1 hE1 => ⟨rfl, rfl, z1, rfl, ?_⟩)
  have e1 := e0.trans (bnp_e hE1)
  have f2 : (hf_up φ 192 0 0) 194 4 = φ 194 4 := (hf_up_ne (fun q => absurd q.1 (by decide)))
  have f3 := iv_at (a := 194) (k := 4) (lo := 0) (u := 8) hI (by decide +kernel)
  refine ⟨by unfold hi; omega, fun q2 => ?_, fun q2 => ?_⟩
  · skip
    have e2a := e1.trans (if_pos q2)
    refine sf_233_192 (φ := (hf_up φ 192 0 0)) i1  (fun ψ3 hI3 hF3 hE3 => ⟨rfl, rfl, ?_⟩)
    have hG3 : Fr [194, 200, 193000] φ ψ3 := fr_tr r1 hF3 (by decide)
    have e3 := e2a.trans (bnv_e hE3)
    refine sf_234_192 (φ := ψ3) hI3 (by omega) (by omega) (by omega) (by omega) (by omega) (by omega) (fun z4 ψ4 hI4 hF4 hp4 hE4 => ⟨rfl, z4, rfl, ?_⟩)
    have hG4 : Fr [194, 200, 193000] φ ψ4 := fr_tr hG3 hF4 (by decide)
    have e4 := e3.trans (bnd_e hE4)
    exact hQ z4 ψ4 hI4 hG4 trivial e4
  · skip
    have e2b := e1.trans (if_neg q2)
    exact hQ (-1 : Int) (hf_up φ 192 0 0) i1 r1 trivial e2b
theorem sf_236_192_v44 {sc : List Int} {d : Nat} {φ : hf_F} {x : Nat} {Q : Option jm_V → hf_F → Nat → Prop} {L : jm_L} {l1 l2 l3 l4 : Int} (g0 : jm_get L 0 = some (2, 192)) (g1 : jm_get L 1 = some (0, l1)) (g2 : jm_get L 2 = some (0, l2)) (g3 : jm_get L 3 = some (0, l3)) (g4 : jm_get L 4 = some (0, l4))
    (H : hi l4 ∧ hi (φ 194 1) ∧ ((φ 194 1) ≤ l4 → hw sc (d + 4) 236 31 (jm_st1 L 3 (0, l3 + 1)) [] φ x Q) ∧ (¬ (φ 194 1) ≤ l4 → hw sc (d + 3) 215 0 [(0, (2, 192)), (1, (0, l3)), (2, (0, l4))] [] φ x (fun r ψ2 y2 => y2 = x ∧ φ = ψ2 ∧ (∃ z2 : Int, r = some (0, z2) ∧ (hi z2 ∧ (z2 ≤ 0 → 0 ≤ (112 + l3) ∧ (112 + l3) < 361 ∧ (hw sc (d + 3) 234 0 [(0, (2, 192)), (1, (0, l1)), (2, (0, 1)), (3, (0, l2))] [] (hf_up φ 194 ((112 + l3).toNat) (l4 + 1)) x (fun r ψ5 y5 => y5 = x ∧ (∃ z5 : Int, r = some (0, z5) ∧ (hi z5 ∧ (0 ≤ z5 → Q (some (0, l3)) (hf_up (hf_up ψ5 192 24 1) 192 23 l4) x) ∧ (¬ 0 ≤ z5 → hw sc (d + 4) 236 44 (jm_st1 L 4 (0, l4 + 1)) [] ψ5 x Q)))))) ∧ (¬ z2 ≤ 0 → hw sc (d + 4) 236 44 (jm_st1 L 4 (0, l4 + 1)) [] φ x Q)))))) :
    hw sc (d + 4) 236 44 L [] φ x Q := by
  refine hw_ld (b := 4) (e := 1) (by decide +kernel) g4 ?_
  refine hw_ald (b := 0) (e := 0) (by decide +kernel) g0 (by decide) ?_
  refine hr_gr (w := 194) (b := 12) (e := 6) 192 rfl (by decide +kernel) ?_
  refine hw_k (c := 1) (b := 0) (e := 1) (by decide +kernel) ?_
  refine hr_al (b := 0) (a0 := 0) (e := 0) (n := 361) (w := φ 194 1) 194 rfl (by decide +kernel) (by decide) (by decide) (by decide) rfl ?_
  obtain ⟨hz1, hy1, ht1, hf1⟩ := H
  refine hw_if2 (a0 := 0) (b := 3) (e := 113) (by decide +kernel) hz1 hy1 (fun q => ?_) (fun q => ?_)
  · have H := ht1 q
    refine hw_inc (L' := (jm_st1 L 3 (0, l3 + 1))) (c := 1) (b := 3) (e := 0) (by decide +kernel) g3 rfl ?_
    refine hw_goto (a0 := 0) (b := 0) (e := 31) (by decide +kernel) ?_
    exact H
  · have H := hf1 q
    refine hw_ald (b := 0) (e := 0) (by decide +kernel) g0 (by decide) ?_
    refine hw_ld (b := 3) (e := 0) (by decide +kernel) g3 ?_
    refine hw_ld (b := 4) (e := 1) (by decide +kernel) g4 ?_
    refine hr_call (a0 := 22) (b := 215) (e := 3) (nl := 3) (As := [(0, l3), (0, l4)]) (R := []) 192 rfl (by decide +kernel) rfl rfl (Nat.le_of_ble_eq_true rfl) (Nat.le_of_ble_eq_true rfl) ?_
    refine hw_mono H ?_
    rintro r ψ2 y2 ⟨hyx, hψx, z2, hr, H⟩
    subst hyx
    subst hψx
    subst hr
    refine ⟨hne0, ?_⟩
    show hw sc (d + 4) 236 62 L [(0, z2)] φ y2 Q
    obtain ⟨hz3, ht3, hf3⟩ := H
    refine hw_if (a0 := 0) (b := 5) (e := 68) (by decide +kernel) hz3 (fun q => ?_) (fun q => ?_)
    · have H := ht3 q
      refine hw_ald (b := 0) (e := 0) (by decide +kernel) g0 (by decide) ?_
      refine hr_gr (w := 194) (b := 12) (e := 6) 192 rfl (by decide +kernel) ?_
      refine hw_k (c := 112) (b := 1) (e := 2) (by decide +kernel) ?_
      refine hw_ld (b := 3) (e := 0) (by decide +kernel) g3 ?_
      refine hw_bin (w := 112 + l3) (a0 := 0) (b := 0) (e := 0) (by decide +kernel) rfl ?_
      refine hw_ld (b := 4) (e := 1) (by decide +kernel) g4 ?_
      refine hw_k (c := 1) (b := 0) (e := 1) (by decide +kernel) ?_
      refine hw_bin (w := l4 + 1) (a0 := 0) (b := 0) (e := 0) (by decide +kernel) rfl ?_
      obtain ⟨hl4, hu4, H⟩ := H
      refine hr_as (a0 := 0) (e := 4) (n := 361) 194 rfl (by decide +kernel) hl4 hu4 ?_
      refine hw_ald (b := 0) (e := 0) (by decide +kernel) g0 (by decide) ?_
      refine hw_ld (b := 1) (e := 0) (by decide +kernel) g1 ?_
      refine hw_k (c := 1) (b := 0) (e := 1) (by decide +kernel) ?_
      refine hw_ld (b := 2) (e := 0) (by decide +kernel) g2 ?_
      refine hr_call (a0 := 22) (b := 234) (e := 4) (nl := 6) (As := [(0, l1), (0, 1), (0, l2)]) (R := []) 192 rfl (by decide +kernel) rfl rfl (Nat.le_of_ble_eq_true rfl) (Nat.le_of_ble_eq_true rfl) ?_
      refine hw_mono H ?_
      rintro r ψ5 y5 ⟨hyx, z5, hr, H⟩
      subst hyx
      subst hr
      refine ⟨hne0, ?_⟩
      show hw sc (d + 4) 236 88 L [(0, z5)] ψ5 y5 Q
      obtain ⟨hz6, ht6, hf6⟩ := H
      refine hw_if (a0 := 0) (b := 3) (e := 94) (by decide +kernel) hz6 (fun q => ?_) (fun q => ?_)
      · have H := ht6 q
        refine hw_ald (b := 0) (e := 0) (by decide +kernel) g0 (by decide) ?_
        refine hw_k (c := 1) (b := 0) (e := 1) (by decide +kernel) ?_
        refine hr_pz (b := 12) (e := 24) 192 rfl (by decide +kernel) (by decide) ?_
        refine hw_ald (b := 0) (e := 0) (by decide +kernel) g0 (by decide) ?_
        refine hw_ld (b := 4) (e := 1) (by decide +kernel) g4 ?_
        refine hr_pi (b := 12) (e := 23) 192 rfl (by decide +kernel) ?_
        refine hw_ld (b := 3) (e := 0) (by decide +kernel) g3 ?_
        exact hw_ret (a0 := 0) (e := 0) (by decide +kernel) (Or.inl rfl) H
      · have H := hf6 q
        refine hw_goto (a0 := 0) (b := 0) (e := 107) (by decide +kernel) ?_
        refine hw_inc (L' := (jm_st1 L 4 (0, l4 + 1))) (c := 1) (b := 4) (e := 0) (by decide +kernel) g4 rfl ?_
        refine hw_goto (a0 := 0) (b := 0) (e := 44) (by decide +kernel) ?_
        exact H
    · have H := hf3 q
      refine hw_goto (a0 := 0) (b := 0) (e := 107) (by decide +kernel) ?_
      refine hw_inc (L' := (jm_st1 L 4 (0, l4 + 1))) (c := 1) (b := 4) (e := 0) (by decide +kernel) g4 rfl ?_
      refine hw_goto (a0 := 0) (b := 0) (e := 44) (by decide +kernel) ?_
      exact H
theorem sf_236_192_l44 {sc : List Int} {d x : Nat} {Q : Option jm_V → hf_F → Nat → Prop} {K : hf_F → Int → Int → Int → Int × hf_F} : ∀ (n : Nat) (φ : hf_F) (L : jm_L) (l1 l2 l3 l4 : Int), jm_get L 0 = some (2, 192) → jm_get L 1 = some (0, l1) → jm_get L 2 = some (0, l2) → jm_get L 3 = some (0, l3) → jm_get L 4 = some (0, l4) → Inv φ → 8 - l4 < (n : Int) → 0 ≤ l1 → l1 ≤ 7 → 1 ≤ l2 → l2 ≤ 99 → 0 ≤ l3 → l3 ≤ 5 → 0 ≤ l4 → l4 ≤ 8 → ∀ (N : Nat), 6 - l3 ≤ (N : Int) → (∀ (φ2 : hf_F) (L2 : jm_L) (u1 u2 u3 : Int), jm_get L2 0 = some (2, 192) → jm_get L2 1 = some (0, u1) → jm_get L2 2 = some (0, u2) → jm_get L2 3 = some (0, u3) → Inv φ2 → 6 - u3 < (N : Int) → 0 ≤ u1 → u1 ≤ 7 → 1 ≤ u2 → u2 ≤ 99 → 0 ≤ u3 → u3 ≤ 6 → Fr [194, 200, 193000, 193023, 193024] φ φ2 → F_RideLawsModel_aim_192_l44 K n φ l1 l2 l3 l4 = K φ2 u1 u2 u3 → hw sc (d + 4) 236 31 L2 [] φ2 x Q) → (∀ (r : Int) (ψ : hf_F), Inv ψ → Fr [194, 200, 193000, 193023, 193024] φ ψ → True → F_RideLawsModel_aim_192_l44 K n φ l1 l2 l3 l4 = (r, ψ) → Q (some (0, r)) ψ x) → hw sc (d + 4) 236 44 L [] φ x Q := by
  intro n
  induction n with
  | zero =>
    intro φ L l1 l2 l3 l4 g0 g1 g2 g3 g4 hI hM b1a b1b b2a b2b b3a b3b b4a b4b N hN hO hQ
    exfalso
    omega
  | succ n ih =>
    intro φ L l1 l2 l3 l4 g0 g1 g2 g3 g4 hI hM b1a b1b b2a b2b b3a b3b b4a b4b N hN hO hQ
    refine sf_236_192_v44 g0 g1 g2 g3 g4 ?_
    have e0 := F_RideLawsModel_aim_192_l44_s (φ := φ) (l1 := l1) (l2 := l2) (l3 := l3) (l4 := l4) K n
    have f1 := iv_at (a := 194) (k := 1) (lo := 0) (u := 8) hI (by decide +kernel)
    refine ⟨by unfold hi; omega, by unfold hi; omega, fun q1 => ?_, fun q1 => ?_⟩
    · skip
      have e1a := e0.trans (if_pos q1)
      exact hO φ (jm_st1 L 3 (0, l3 + 1)) l1 l2 (l3 + 1) (get_st1 g0 (by decide) (fun q => absurd q.1 (by decide))) (get_st1 g1 (by decide) (fun q => absurd q.1 (by decide))) (get_st1 g2 (by decide) (fun q => tg0 q.2)) get_st1e hI (by omega) (by omega) (by omega) (by omega) (by omega) (by omega) (by omega) (fr_rf) e1a
    · skip
      have e1b := e0.trans (if_neg q1)
      refine sf_215_192 (φ := φ) hI (by omega) (by omega) (by omega) (by omega) (fun z2 hp2 hE2 => ⟨rfl, rfl, z2, rfl, ?_⟩)
      have e2 := e1b.trans (bnp_e hE2)
      refine ⟨by unfold hi; omega, fun q3 => ?_, fun q3 => ?_⟩
      · skip
        have e3a := e2.trans (if_pos q3)
        refine ⟨by omega, by omega, ?_⟩
        have i2 : Inv (hf_up φ 194 ((112 + l3).toNat) (l4 + 1)) := iv_upI (s := 112) (t := 118) (lo := 0) (u := 8) (z := 112 + l3) hI (by decide +kernel) (by omega) (by omega) (by omega) (by omega)
        have r2 : Fr [194, 200, 193000, 193023, 193024] φ (hf_up φ 194 ((112 + l3).toNat) (l4 + 1)) := fr_upa (fr_rf) (by decide)
        refine sf_234_192 (φ := (hf_up φ 194 ((112 + l3).toNat) (l4 + 1))) i2 (by omega) (by omega) (by omega) (by omega) (by omega) (by omega) (fun z5 ψ5 hI5 hF5 hp5 hE5 => ⟨rfl, z5, rfl, ?_⟩)
        have hG5 : Fr [194, 200, 193000, 193023, 193024] φ ψ5 := fr_tr r2 hF5 (by decide)
        have e5 := e3a.trans (bnd_e hE5)
        refine ⟨by unfold hi; omega, fun q6 => ?_, fun q6 => ?_⟩
        · skip
          have e6a := e5.trans (if_pos q6)
          have i3 : Inv (hf_up ψ5 192 24 1) := iv_up (lo := 0) (u := 1) hI5 (by decide +kernel) (by omega) (by omega)
          have r3 : Fr [194, 200, 193000, 193023, 193024] φ (hf_up ψ5 192 24 1) := fr_up hG5 (by decide)
          have i4 : Inv (hf_up (hf_up ψ5 192 24 1) 192 23 l4) := iv_up (lo := 0) (u := 7) i3 (by decide +kernel) (by omega) (by omega)
          have r4 : Fr [194, 200, 193000, 193023, 193024] φ (hf_up (hf_up ψ5 192 24 1) 192 23 l4) := fr_up r3 (by decide)
          exact hQ l3 (hf_up (hf_up ψ5 192 24 1) 192 23 l4) i4 r4 trivial e6a
        · skip
          have e6b := e5.trans (if_neg q6)
          exact ih ψ5 (jm_st1 L 4 (0, l4 + 1)) l1 l2 l3 (l4 + 1) (get_st1 g0 (by decide) (fun q => absurd q.1 (by decide))) (get_st1 g1 (by decide) (fun q => absurd q.1 (by decide))) (get_st1 g2 (by decide) (fun q => absurd q.1 (by decide))) (get_st1 g3 (by decide) (fun q => tg0 q.2)) get_st1e hI5 (by omega) (by omega) (by omega) (by omega) (by omega) (by omega) (by omega) (by omega) (by omega) N (by omega) (fun φ2 L2 u1 u2 u3 w0 w1 w2 w3 hI2 hM2 x0 x1 x2 x3 x4 x5 hF2 hE2 => hO φ2 L2 u1 u2 u3 w0 w1 w2 w3 hI2 hM2 x0 x1 x2 x3 x4 x5 (fr_tr hG5 hF2 (by decide)) (e6b.trans hE2)) (fun rr χ hIχ hFχ hpχ hEχ => hQ rr χ hIχ (fr_tr hG5 hFχ (by decide)) hpχ (e6b.trans hEχ))
      · skip
        have e3b := e2.trans (if_neg q3)
        exact ih φ (jm_st1 L 4 (0, l4 + 1)) l1 l2 l3 (l4 + 1) (get_st1 g0 (by decide) (fun q => absurd q.1 (by decide))) (get_st1 g1 (by decide) (fun q => absurd q.1 (by decide))) (get_st1 g2 (by decide) (fun q => absurd q.1 (by decide))) (get_st1 g3 (by decide) (fun q => tg0 q.2)) get_st1e hI (by omega) (by omega) (by omega) (by omega) (by omega) (by omega) (by omega) (by omega) (by omega) N (by omega) (fun φ2 L2 u1 u2 u3 w0 w1 w2 w3 hI2 hM2 x0 x1 x2 x3 x4 x5 hF2 hE2 => hO φ2 L2 u1 u2 u3 w0 w1 w2 w3 hI2 hM2 x0 x1 x2 x3 x4 x5 (fr_tr (fr_rf) hF2 (by decide)) (e3b.trans hE2)) (fun rr χ hIχ hFχ hpχ hEχ => hQ rr χ hIχ (fr_tr (fr_rf) hFχ (by decide)) hpχ (e3b.trans hEχ))
theorem sf_236_192_v31 {sc : List Int} {d : Nat} {φ : hf_F} {x : Nat} {Q : Option jm_V → hf_F → Nat → Prop} {L : jm_L} {l1 l2 l3 : Int} (g0 : jm_get L 0 = some (2, 192)) (g1 : jm_get L 1 = some (0, l1)) (g2 : jm_get L 2 = some (0, l2)) (g3 : jm_get L 3 = some (0, l3))
    (H : hi l3 ∧ hi (φ 194 3) ∧ ((φ 194 3) ≤ l3 → Q (some (0, (-1 : Int))) φ x) ∧ (¬ (φ 194 3) ≤ l3 → hw sc (d + 4) 236 44 (jm_st1 L 4 (0, 0)) [] φ x Q)) :
    hw sc (d + 4) 236 31 L [] φ x Q := by
  refine hw_ld (b := 3) (e := 0) (by decide +kernel) g3 ?_
  refine hw_ald (b := 0) (e := 0) (by decide +kernel) g0 (by decide) ?_
  refine hr_gr (w := 194) (b := 12) (e := 6) 192 rfl (by decide +kernel) ?_
  refine hw_k (c := 3) (b := 0) (e := 1) (by decide +kernel) ?_
  refine hr_al (b := 0) (a0 := 0) (e := 0) (n := 361) (w := φ 194 3) 194 rfl (by decide +kernel) (by decide) (by decide) (by decide) rfl ?_
  obtain ⟨hz1, hy1, ht1, hf1⟩ := H
  refine hw_if2 (a0 := 0) (b := 3) (e := 119) (by decide +kernel) hz1 hy1 (fun q => ?_) (fun q => ?_)
  · have H := ht1 q
    refine hw_k (c := (-1 : Int)) (b := 0) (e := 1) (by decide +kernel) ?_
    exact hw_ret (a0 := 0) (e := 0) (by decide +kernel) (Or.inl rfl) H
  · have H := hf1 q
    refine hw_k (c := 0) (b := 0) (e := 1) (by decide +kernel) ?_
    refine hw_st (L' := (jm_st1 L 4 (0, 0))) (b := 4) (e := 1) (by decide +kernel) rfl ?_
    exact H
theorem sf_236_192_l31 {sc : List Int} {d x : Nat} {Q : Option jm_V → hf_F → Nat → Prop} : ∀ (n : Nat) (φ : hf_F) (L : jm_L) (l1 l2 l3 : Int), jm_get L 0 = some (2, 192) → jm_get L 1 = some (0, l1) → jm_get L 2 = some (0, l2) → jm_get L 3 = some (0, l3) → Inv φ → 6 - l3 < (n : Int) → 0 ≤ l1 → l1 ≤ 7 → 1 ≤ l2 → l2 ≤ 99 → 0 ≤ l3 → l3 ≤ 6 → (∀ (r : Int) (ψ : hf_F), Inv ψ → Fr [194, 200, 193000, 193023, 193024] φ ψ → True → F_RideLawsModel_aim_192_l31 n φ l1 l2 l3 = (r, ψ) → Q (some (0, r)) ψ x) → hw sc (d + 4) 236 31 L [] φ x Q := by
  intro n
  induction n with
  | zero =>
    intro φ L l1 l2 l3 g0 g1 g2 g3 hI hM b1a b1b b2a b2b b3a b3b hQ
    exfalso
    omega
  | succ n ih =>
    intro φ L l1 l2 l3 g0 g1 g2 g3 hI hM b1a b1b b2a b2b b3a b3b hQ
    refine sf_236_192_v31 g0 g1 g2 g3 ?_
    have e0 := F_RideLawsModel_aim_192_l31_s (φ := φ) (l1 := l1) (l2 := l2) (l3 := l3) n
    have f1 := iv_at (a := 194) (k := 3) (lo := 0) (u := 6) hI (by decide +kernel)
    refine ⟨by unfold hi; omega, by unfold hi; omega, fun q1 => ?_, fun q1 => ?_⟩
    · skip
      have e1a := e0.trans (if_pos q1)
      exact hQ (-1 : Int) φ hI (fr_rf) trivial e1a
    · skip
      have e1b := e0.trans (if_neg q1)
      exact sf_236_192_l44 (K := F_RideLawsModel_aim_192_l31 n) ((8 - 0 : Int).toNat + 1) φ (jm_st1 L 4 (0, 0)) l1 l2 l3 0 (get_st1 g0 (by decide) (fun q => absurd q.1 (by decide))) (get_st1 g1 (by decide) (fun q => absurd q.1 (by decide))) (get_st1 g2 (by decide) (fun q => absurd q.1 (by decide))) (get_st1 g3 (by decide) (fun q => tg0 q.2)) get_st1e hI (by omega) (by omega) (by omega) (by omega) (by omega) (by omega) (by omega) (by omega) (by omega) n (by omega) (fun φ2 L2 u1 u2 u3 w0 w1 w2 w3 hI2 hM2 x0 x1 x2 x3 x4 x5 hF2 hE2 => ih φ2 L2 u1 u2 u3 w0 w1 w2 w3 hI2 hM2 x0 x1 x2 x3 x4 x5 (fun rr χ hIχ hFχ hpχ hEχ => hQ rr χ hIχ (fr_tr (fr_tr (fr_rf) hF2 (by decide)) hFχ (by decide)) hpχ ((e1b.trans hE2).trans hEχ))) (fun rr χ hIχ hFχ hpχ hEχ => hQ rr χ hIχ (fr_tr (fr_rf) hFχ (by decide)) hpχ (e1b.trans hEχ))
theorem sf_236_192_v {sc : List Int} {d : Nat} {φ : hf_F} {x : Nat} {Q : Option jm_V → hf_F → Nat → Prop} {v1 v2 : Int}
    (H : hw sc (d + 3) 211 0 [(0, (2, 192)), (1, (0, v1))] [] (hf_up φ 192 0 0) x (fun r ψ1 y1 => y1 = x ∧ (hf_up φ 192 0 0) = ψ1 ∧ (∃ z1 : Int, r = some (0, z1) ∧ (hi z1 ∧ (z1 = 0 → Q (some (0, (-1 : Int))) (hf_up φ 192 0 0) x) ∧ (¬ z1 = 0 → hw sc (d + 3) 188 0 [(0, (0, v2)), (1, (0, 1)), (2, (0, 99))] [] (hf_up φ 192 0 0) x (fun r ψ4 y4 => y4 = x ∧ (hf_up φ 192 0 0) = ψ4 ∧ (∃ z4 : Int, r = some (0, z4) ∧ (hi z4 ∧ (¬ z4 = 0 → hw sc (d + 3) 233 0 [(0, (2, 192))] [] (hf_up φ 192 0 0) x (fun r ψ6 y6 => y6 = x ∧ (r = none ∧ (hw sc (d + 4) 236 31 (jm_st1 [(0, (2, 192)), (1, (0, v1)), (2, (0, v2))] 3 (0, 0)) [] ψ6 x Q)))) ∧ (¬ (¬ z4 = 0) → Q (some (0, (-1 : Int))) (hf_up φ 192 0 0) x))))))))) :
    hw sc (d + 4) 236 0 [(0, (2, 192)), (1, (0, v1)), (2, (0, v2))] [] φ x Q := by
  refine hw_ald (b := 0) (e := 0) (by decide +kernel) rfl (by decide) ?_
  refine hw_k (c := 0) (b := 0) (e := 1) (by decide +kernel) ?_
  refine hr_pi (b := 12) (e := 0) 192 rfl (by decide +kernel) ?_
  refine hw_ald (b := 0) (e := 0) (by decide +kernel) rfl (by decide) ?_
  refine hw_ld (b := 1) (e := 0) (by decide +kernel) rfl ?_
  refine hr_call (a0 := 22) (b := 211) (e := 2) (nl := 2) (As := [(0, v1)]) (R := []) 192 rfl (by decide +kernel) rfl rfl (Nat.le_of_ble_eq_true rfl) (Nat.le_of_ble_eq_true rfl) ?_
  refine hw_mono H ?_
  rintro r ψ1 y1 ⟨hyx, hψx, z1, hr, H⟩
  subst hyx
  subst hψx
  subst hr
  refine ⟨hne0, ?_⟩
  show hw sc (d + 4) 236 10 [(0, (2, 192)), (1, (0, v1)), (2, (0, v2))] [(0, z1)] (hf_up φ 192 0 0) y1 Q
  obtain ⟨hz2, ht2, hf2⟩ := H
  refine hw_if (a0 := 0) (b := 0) (e := 23) (by decide +kernel) hz2 (fun q => ?_) (fun q => ?_)
  · have H := ht2 q
    refine hw_k (c := (-1 : Int)) (b := 0) (e := 1) (by decide +kernel) ?_
    exact hw_ret (a0 := 0) (e := 0) (by decide +kernel) (Or.inl rfl) H
  · have H := hf2 q
    refine hw_ld (b := 2) (e := 0) (by decide +kernel) rfl ?_
    refine hw_k (c := 1) (b := 0) (e := 1) (by decide +kernel) ?_
    refine hw_k (c := 99) (b := 1) (e := 2) (by decide +kernel) ?_
    refine hr_calls (b := 188) (e := 3) (nl := 3) (As := [(0, v2), (0, 1), (0, 99)]) (R := []) (by decide +kernel) rfl rfl (Nat.le_of_ble_eq_true rfl) (Nat.le_of_ble_eq_true rfl) ?_
    refine hw_mono H ?_
    rintro r ψ4 y4 ⟨hyx, hψx, z4, hr, H⟩
    subst hyx
    subst hψx
    subst hr
    refine ⟨hne0, ?_⟩
    show hw sc (d + 4) 236 20 [(0, (2, 192)), (1, (0, v1)), (2, (0, v2))] [(0, z4)] (hf_up φ 192 0 0) y4 Q
    obtain ⟨hz5, ht5, hf5⟩ := H
    refine hw_if (a0 := 0) (b := 1) (e := 25) (by decide +kernel) hz5 (fun q => ?_) (fun q => ?_)
    · have H := ht5 q
      refine hw_ald (b := 0) (e := 0) (by decide +kernel) rfl (by decide) ?_
      refine hr_call (a0 := 22) (b := 233) (e := 1) (nl := 2) (As := []) (R := []) 192 rfl (by decide +kernel) rfl rfl (Nat.le_of_ble_eq_true rfl) (Nat.le_of_ble_eq_true rfl) ?_
      refine hw_mono H ?_
      rintro r ψ6 y6 ⟨hyx, hr, H⟩
      subst hyx
      subst hr
      refine ⟨hnen, ?_⟩
      show hw sc (d + 4) 236 29 [(0, (2, 192)), (1, (0, v1)), (2, (0, v2))] [] ψ6 y6 Q
      refine hw_k (c := 0) (b := 0) (e := 1) (by decide +kernel) ?_
      refine hw_st (L' := (jm_st1 [(0, (2, 192)), (1, (0, v1)), (2, (0, v2))] 3 (0, 0))) (b := 3) (e := 0) (by decide +kernel) rfl ?_
      exact H
    · have H := hf5 q
      refine hw_k (c := (-1 : Int)) (b := 0) (e := 1) (by decide +kernel) ?_
      exact hw_ret (a0 := 0) (e := 0) (by decide +kernel) (Or.inl rfl) H
theorem sf_236_192 {sc : List Int} {d : Nat} {φ : hf_F} {x : Nat} {Q : Option jm_V → hf_F → Nat → Prop} {v1 v2 : Int} (hI : Inv φ) (h1a : (-2147483648 : Int) ≤ v1) (h1b : v1 ≤ 2147483647) (h2a : (-2147483648 : Int) ≤ v2) (h2b : v2 ≤ 2147483647) (hQ : ∀ (r : Int) (ψ : hf_F), Inv ψ → Fr [194, 200, 193000, 193023, 193024] φ ψ → True → F_RideLawsModel_aim_192 φ v1 v2 = (r, ψ) → Q (some (0, r)) ψ x) : hw sc (d + 4) 236 0 [(0, (2, 192)), (1, (0, v1)), (2, (0, v2))] [] φ x Q := by
  apply sf_236_192_v
  have e0 : F_RideLawsModel_aim_192 φ v1 v2 = _ := rfl
  have i1 : Inv (hf_up φ 192 0 0) := iv_up (lo := 0) (u := 1) hI (by decide +kernel) (by omega) (by omega)
  have r1 : Fr [194, 200, 193000, 193023, 193024] φ (hf_up φ 192 0 0) := fr_up (fr_rf) (by decide)
  refine sf_211_192 (φ := (hf_up φ 192 0 0)) i1 (by omega) (by omega) (fun z1 hp1 hE1 => ⟨rfl, rfl, z1, rfl, ?_⟩)
  have e1 := e0.trans (bnp_e hE1)
  have f2 : (hf_up φ 192 0 0) 194 4 = φ 194 4 := (hf_up_ne (fun q => absurd q.1 (by decide)))
  have f3 := iv_at (a := 194) (k := 4) (lo := 0) (u := 8) hI (by decide +kernel)
  refine ⟨by unfold hi; omega, fun q2 => ?_, fun q2 => ?_⟩
  · skip
    have e2a := e1.trans (if_pos q2)
    exact hQ (-1 : Int) (hf_up φ 192 0 0) i1 r1 trivial e2a
  · skip
    have e2b := e1.trans (if_neg q2)
    refine sf_188 (φ := (hf_up φ 192 0 0)) i1 (by omega) (by omega) (by omega) (by omega) (by omega) (by omega) (fun z4 hp4 hE4 => ⟨rfl, rfl, z4, rfl, ?_⟩)
    have e4 := e2b.trans (bnp_e hE4)
    refine ⟨by unfold hi; omega, fun q5 => ?_, fun q5 => ?_⟩
    · skip
      have e5a := e4.trans (if_pos q5)
      refine sf_233_192 (φ := (hf_up φ 192 0 0)) i1  (fun ψ6 hI6 hF6 hE6 => ⟨rfl, rfl, ?_⟩)
      have hG6 : Fr [194, 200, 193000, 193023, 193024] φ ψ6 := fr_tr r1 hF6 (by decide)
      have e6 := e5a.trans (bnv_e hE6)
      exact sf_236_192_l31 ((6 - 0 : Int).toNat + 1) ψ6 (jm_st1 [(0, (2, 192)), (1, (0, v1)), (2, (0, v2))] 3 (0, 0)) v1 v2 0 (get_st1 rfl (by decide) (fun q => absurd q.1 (by decide))) (get_st1 rfl (by decide) (fun q => absurd q.1 (by decide))) (get_st1 rfl (by decide) (fun q => tg0 q.2)) get_st1e hI6 (by omega) (by omega) (by omega) (by omega) (by omega) (by omega) (by omega) (fun rr χ hIχ hFχ hpχ hEχ => hQ rr χ hIχ (fr_tr hG6 hFχ (by decide)) hpχ (e6.trans hEχ))
    · skip
      have e5b := e4.trans (if_neg q5)
      exact hQ (-1 : Int) (hf_up φ 192 0 0) i1 r1 trivial e5b
theorem sf_243_v4 {sc : List Int} {d : Nat} {φ : hf_F} {x : Nat} {Q : Option jm_V → hf_F → Nat → Prop} {L : jm_L} {l0 l1 l2 l3 : Int} (g0 : jm_get L 0 = some (0, l0)) (g1 : jm_get L 1 = some (0, l1)) (g2 : jm_get L 2 = some (0, l2)) (g3 : jm_get L 3 = some (0, l3))
    (H : ((jm_n l3) = 0 → Q (some (0, l2)) φ x) ∧ (¬ (jm_n l3) = 0 → ¬ jm_n l3 = 0 ∧ (hw sc d 243 4 (jm_st1 (jm_st1 (jm_st1 L 4 (0, (jm_n l2).tmod (jm_n l3))) 2 (0, l3)) 3 (0, (jm_n l2).tmod (jm_n l3))) [] φ x Q))) :
    hw sc d 243 4 L [] φ x Q := by
  refine hw_ld (b := 3) (e := 0) (by decide +kernel) g3 ?_
  obtain ⟨ht1, hf1⟩ := H
  refine hw_ifn (a0 := 0) (b := 0) (e := 21) (by decide +kernel) (fun q => ?_) (fun q => ?_)
  · have H := ht1 q
    refine hw_ld (b := 2) (e := 0) (by decide +kernel) g2 ?_
    exact hw_ret (a0 := 0) (e := 0) (by decide +kernel) (Or.inl rfl) H
  · have H := hf1 q
    refine hw_ld (b := 2) (e := 0) (by decide +kernel) g2 ?_
    refine hw_ld (b := 3) (e := 0) (by decide +kernel) g3 ?_
    obtain ⟨hn3, H⟩ := H
    refine hw_bin (w := (jm_n l2).tmod (jm_n l3)) (a0 := 0) (b := 10) (e := 0) (by decide +kernel) (hb_remn hn3) ?_
    refine hw_st (L' := (jm_st1 L 4 (0, (jm_n l2).tmod (jm_n l3)))) (b := 4) (e := 1) (by decide +kernel) rfl ?_
    refine hw_ld (b := 3) (e := 0) (by decide +kernel) (get_st1 g3 (by decide) (fun q => tg0 q.2)) ?_
    refine hw_st (L' := (jm_st1 (jm_st1 L 4 (0, (jm_n l2).tmod (jm_n l3))) 2 (0, l3))) (b := 2) (e := 0) (by decide +kernel) rfl ?_
    refine hw_ld (b := 4) (e := 1) (by decide +kernel) (get_st1 get_st1e (by decide) (fun q => absurd q.1 (by decide))) ?_
    refine hw_st (L' := (jm_st1 (jm_st1 (jm_st1 L 4 (0, (jm_n l2).tmod (jm_n l3))) 2 (0, l3)) 3 (0, (jm_n l2).tmod (jm_n l3)))) (b := 3) (e := 0) (by decide +kernel) rfl ?_
    refine hw_goto (a0 := 0) (b := 0) (e := 4) (by decide +kernel) ?_
    exact H
theorem sf_243_l4 {sc : List Int} {d x : Nat} {Q : Option jm_V → hf_F → Nat → Prop} : ∀ (n : Nat) (φ : hf_F) (L : jm_L) (l0 l1 l2 l3 : Int), jm_get L 0 = some (0, l0) → jm_get L 1 = some (0, l1) → jm_get L 2 = some (0, l2) → jm_get L 3 = some (0, l3) → Inv φ → ((jm_n l3).natAbs : Int) < (n : Int) → ¬ (jm_n l2 = 0 ∧ jm_n l3 = 0) → (∀ (r : Int), True ∧ ¬ jm_n r = 0 → F_RideLawsModel_common_l4 n φ l0 l1 l2 l3 = r → Q (some (0, r)) φ x) → hw sc d 243 4 L [] φ x Q := by
  intro n
  induction n with
  | zero =>
    intro φ L l0 l1 l2 l3 g0 g1 g2 g3 hI hM c0 hQ
    exfalso
    omega
  | succ n ih =>
    intro φ L l0 l1 l2 l3 g0 g1 g2 g3 hI hM c0 hQ
    refine sf_243_v4 g0 g1 g2 g3 ?_
    have e0 := F_RideLawsModel_common_l4_s (φ := φ) (l0 := l0) (l1 := l1) (l2 := l2) (l3 := l3) n
    have f1 := hr_n l3
    refine ⟨fun q1 => ?_, fun q1 => ?_⟩
    · skip
      have e1a := e0.trans (if_pos q1)
      exact hQ l2 ⟨trivial, by omega⟩ e1a
    · skip
      have e1b := e0.trans (if_neg q1)
      have f2 := hr_n l2
      refine ⟨by omega, ?_⟩
      have f3 := hr_tmodn l2 l3 (by omega)
      exact ih φ (jm_st1 (jm_st1 (jm_st1 L 4 (0, (jm_n l2).tmod (jm_n l3))) 2 (0, l3)) 3 (0, (jm_n l2).tmod (jm_n l3))) l0 l1 l3 ((jm_n l2).tmod (jm_n l3)) (get_st1 (get_st1 (get_st1 g0 (by decide) (fun q => absurd q.1 (by decide))) (by decide) (fun q => absurd q.1 (by decide))) (by decide) (fun q => absurd q.1 (by decide))) (get_st1 (get_st1 (get_st1 g1 (by decide) (fun q => absurd q.1 (by decide))) (by decide) (fun q => tg0 q.2)) (by decide) (fun q => absurd q.1 (by decide))) (get_st1 get_st1e (by decide) (fun q => tg0 q.2)) get_st1e hI (by omega) (by omega) (fun rr hpχ hEχ => hQ rr hpχ (e1b.trans hEχ))
theorem sf_243_v {sc : List Int} {d : Nat} {φ : hf_F} {x : Nat} {Q : Option jm_V → hf_F → Nat → Prop} {v0 v1 : Int}
    (H : hw sc d 243 4 (jm_st1 (jm_st1 [(0, (0, v0)), (1, (0, v1))] 2 (0, v0)) 3 (0, v1)) [] φ x Q) :
    hw sc d 243 0 [(0, (0, v0)), (1, (0, v1))] [] φ x Q := by
  refine hw_ld (b := 0) (e := 0) (by decide +kernel) rfl ?_
  refine hw_st (L' := (jm_st1 [(0, (0, v0)), (1, (0, v1))] 2 (0, v0))) (b := 2) (e := 0) (by decide +kernel) rfl ?_
  refine hw_ld (b := 1) (e := 0) (by decide +kernel) (get_st1 rfl (by decide) (fun q => tg0 q.2)) ?_
  refine hw_st (L' := (jm_st1 (jm_st1 [(0, (0, v0)), (1, (0, v1))] 2 (0, v0)) 3 (0, v1))) (b := 3) (e := 0) (by decide +kernel) rfl ?_
  exact H
theorem sf_243 {sc : List Int} {d : Nat} {φ : hf_F} {x : Nat} {Q : Option jm_V → hf_F → Nat → Prop} {v0 v1 : Int} (hI : Inv φ) (hp0 : ¬ jm_n v0 = 0) (hQ : ∀ (r : Int), True ∧ ¬ jm_n r = 0 → F_RideLawsModel_common φ v0 v1 = r → Q (some (0, r)) φ x) : hw sc d 243 0 [(0, (0, v0)), (1, (0, v1))] [] φ x Q := by
  apply sf_243_v
  have e0 : F_RideLawsModel_common φ v0 v1 = _ := rfl
  exact sf_243_l4 ((((jm_n v1).natAbs : Int) : Int).toNat + 1) φ (jm_st1 (jm_st1 [(0, (0, v0)), (1, (0, v1))] 2 (0, v0)) 3 (0, v1)) v0 v1 v0 v1 (get_st1 (get_st1 rfl (by decide) (fun q => absurd q.1 (by decide))) (by decide) (fun q => absurd q.1 (by decide))) (get_st1 (get_st1 rfl (by decide) (fun q => tg0 q.2)) (by decide) (fun q => absurd q.1 (by decide))) (get_st1 get_st1e (by decide) (fun q => tg0 q.2)) get_st1e hI (by omega) (by omega) (fun rr hpχ hEχ => hQ rr hpχ (e0.trans hEχ))
theorem sf_241_192_v48 {sc : List Int} {d : Nat} {φ : hf_F} {x : Nat} {Q : Option jm_V → hf_F → Nat → Prop} {L : jm_L} {l1 l2 l3 l4 l5 l6 : Int} (g0 : jm_get L 0 = some (2, 192)) (g1 : jm_get L 1 = some (0, l1)) (g2 : jm_get L 2 = some (0, l2)) (g3 : jm_get L 3 = some (0, l3)) (g4 : jm_get L 4 = some (0, l4)) (g5 : jm_get L 5 = some (0, l5)) (g6 : jm_get L 6 = some (0, l6))
    (H : hi l6 ∧ hi (hb_shl 1 (φ 194 3)) ∧ ((hb_shl 1 (φ 194 3)) ≤ l6 → hi l3 ∧ (¬ l3 = 0 → hw sc (d + 1) 243 0 [(0, (0, l4)), (1, (0, l5))] [] φ x (fun r ψ3 y3 => y3 = x ∧ φ = ψ3 ∧ (∃ z3 : Int, r = some (0, z3) ∧ (¬ jm_n z3 = 0 ∧ (Q (some (0, (jm_n l4).tdiv (jm_n z3))) φ x))))) ∧ (¬ (¬ l3 = 0) → hw sc (d + 1) 243 0 [(0, (0, l4)), (1, (0, l5))] [] φ x (fun r ψ6 y6 => y6 = x ∧ φ = ψ6 ∧ (∃ z6 : Int, r = some (0, z6) ∧ (¬ jm_n z6 = 0 ∧ (Q (some (0, (jm_n l5).tdiv (jm_n z6))) φ x)))))) ∧ (¬ (hb_shl 1 (φ 194 3)) ≤ l6 → hw sc (d + 1) 197 0 [(0, (0, l6)), (1, (0, l1))] [] φ x (fun r ψ9 y9 => y9 = x ∧ φ = ψ9 ∧ (∃ z9 : Int, r = some (0, z9) ∧ (hi z9 ∧ (z9 = 0 → hw sc (d + 1) 240 0 [(0, (2, 192)), (1, (0, l2))] [] φ x (fun r ψ11 y11 => y11 = x ∧ φ = ψ11 ∧ (∃ z11 : Int, r = some (0, z11) ∧ (hw sc (d + 1) 242 0 [(0, (2, 192)), (1, (0, l6))] [] φ x (fun r ψ12 y12 => y12 = x ∧ φ = ψ12 ∧ (∃ z12 : Int, r = some (0, z12) ∧ (hi (hb_and z11 (hb_xor z12 (-1 : Int))) ∧ ((hb_and z11 (hb_xor z12 (-1 : Int))) = 0 → hw sc (d + 2) 241 48 (jm_st1 (jm_st1 L 4 (0, l4 + 1)) 6 (0, l6 + 1)) [] φ x Q) ∧ (¬ (hb_and z11 (hb_xor z12 (-1 : Int))) = 0 → hw sc (d + 1) 240 0 [(0, (2, 192)), (1, (0, l2))] [] φ x (fun r ψ14 y14 => y14 = x ∧ φ = ψ14 ∧ (∃ z14 : Int, r = some (0, z14) ∧ (hw sc (d + 1) 242 0 [(0, (2, 192)), (1, (0, hb_or l6 (hb_shl 1 l1)))] [] φ x (fun r ψ15 y15 => y15 = x ∧ φ = ψ15 ∧ (∃ z15 : Int, r = some (0, z15) ∧ (hi (hb_and z14 (hb_xor z15 (-1 : Int))) ∧ (¬ (hb_and z14 (hb_xor z15 (-1 : Int))) = 0 → hw sc (d + 2) 241 48 (jm_st1 (jm_st1 L 4 (0, l4 + 1)) 6 (0, l6 + 1)) [] φ x Q) ∧ (¬ (¬ (hb_and z14 (hb_xor z15 (-1 : Int))) = 0) → hw sc (d + 2) 241 48 (jm_st1 (jm_st1 (jm_st1 L 4 (0, l4 + 1)) 5 (0, l5 + 1)) 6 (0, l6 + 1)) [] φ x Q))))))))))))))) ∧ (¬ z9 = 0 → hw sc (d + 2) 241 48 (jm_st1 L 6 (0, l6 + 1)) [] φ x Q)))))) :
    hw sc (d + 2) 241 48 L [] φ x Q := by
  refine hw_ld (b := 6) (e := 1) (by decide +kernel) g6 ?_
  refine hw_k (c := 1) (b := 0) (e := 1) (by decide +kernel) ?_
  refine hw_ald (b := 0) (e := 0) (by decide +kernel) g0 (by decide) ?_
  refine hr_gr (w := 194) (b := 12) (e := 6) 192 rfl (by decide +kernel) ?_
  refine hw_k (c := 3) (b := 0) (e := 1) (by decide +kernel) ?_
  refine hr_al (b := 0) (a0 := 0) (e := 0) (n := 361) (w := φ 194 3) 194 rfl (by decide +kernel) (by decide) (by decide) (by decide) rfl ?_
  refine hw_bin (w := hb_shl 1 (φ 194 3)) (a0 := 0) (b := 6) (e := 0) (by decide +kernel) rfl ?_
  obtain ⟨hz1, hy1, ht1, hf1⟩ := H
  refine hw_if2 (a0 := 0) (b := 3) (e := 123) (by decide +kernel) hz1 hy1 (fun q => ?_) (fun q => ?_)
  · have H := ht1 q
    refine hw_ld (b := 3) (e := 0) (by decide +kernel) g3 ?_
    obtain ⟨hz2, ht2, hf2⟩ := H
    refine hw_if (a0 := 0) (b := 1) (e := 132) (by decide +kernel) hz2 (fun q => ?_) (fun q => ?_)
    · have H := ht2 q
      refine hw_ld (b := 4) (e := 1) (by decide +kernel) g4 ?_
      refine hw_ld (b := 4) (e := 1) (by decide +kernel) g4 ?_
      refine hw_ld (b := 5) (e := 1) (by decide +kernel) g5 ?_
      refine hr_calls (b := 243) (e := 2) (nl := 5) (As := [(0, l4), (0, l5)]) (R := [(0, l4)]) (by decide +kernel) rfl rfl (Nat.le_of_ble_eq_true rfl) (Nat.le_of_ble_eq_true rfl) ?_
      refine hw_mono H ?_
      rintro r ψ3 y3 ⟨hyx, hψx, z3, hr, H⟩
      subst hyx
      subst hψx
      subst hr
      refine ⟨hne0, ?_⟩
      show hw sc (d + 2) 241 141 L [(0, z3), (0, l4)] φ y3 Q
      obtain ⟨hn4, H⟩ := H
      refine hw_bin (w := (jm_n l4).tdiv (jm_n z3)) (a0 := 0) (b := 9) (e := 0) (by decide +kernel) (hb_divn hn4) ?_
      exact hw_ret (a0 := 0) (e := 0) (by decide +kernel) (Or.inl rfl) H
    · have H := hf2 q
      refine hw_ld (b := 5) (e := 1) (by decide +kernel) g5 ?_
      refine hw_goto (a0 := 0) (b := 0) (e := 134) (by decide +kernel) ?_
      refine hw_ld (b := 4) (e := 1) (by decide +kernel) g4 ?_
      refine hw_ld (b := 5) (e := 1) (by decide +kernel) g5 ?_
      refine hr_calls (b := 243) (e := 2) (nl := 5) (As := [(0, l4), (0, l5)]) (R := [(0, l5)]) (by decide +kernel) rfl rfl (Nat.le_of_ble_eq_true rfl) (Nat.le_of_ble_eq_true rfl) ?_
      refine hw_mono H ?_
      rintro r ψ6 y6 ⟨hyx, hψx, z6, hr, H⟩
      subst hyx
      subst hψx
      subst hr
      refine ⟨hne0, ?_⟩
      show hw sc (d + 2) 241 141 L [(0, z6), (0, l5)] φ y6 Q
      obtain ⟨hn7, H⟩ := H
      refine hw_bin (w := (jm_n l5).tdiv (jm_n z6)) (a0 := 0) (b := 9) (e := 0) (by decide +kernel) (hb_divn hn7) ?_
      exact hw_ret (a0 := 0) (e := 0) (by decide +kernel) (Or.inl rfl) H
  · have H := hf1 q
    refine hw_ld (b := 6) (e := 1) (by decide +kernel) g6 ?_
    refine hw_ld (b := 1) (e := 0) (by decide +kernel) g1 ?_
    refine hr_calls (b := 197) (e := 2) (nl := 2) (As := [(0, l6), (0, l1)]) (R := []) (by decide +kernel) rfl rfl (Nat.le_of_ble_eq_true rfl) (Nat.le_of_ble_eq_true rfl) ?_
    refine hw_mono H ?_
    rintro r ψ9 y9 ⟨hyx, hψx, z9, hr, H⟩
    subst hyx
    subst hψx
    subst hr
    refine ⟨hne0, ?_⟩
    show hw sc (d + 2) 241 67 L [(0, z9)] φ y9 Q
    obtain ⟨hz10, ht10, hf10⟩ := H
    refine hw_if (a0 := 0) (b := 0) (e := 73) (by decide +kernel) hz10 (fun q => ?_) (fun q => ?_)
    · have H := ht10 q
      refine hw_inc (L' := (jm_st1 L 4 (0, l4 + 1))) (c := 1) (b := 4) (e := 0) (by decide +kernel) g4 rfl ?_
      refine hw_ald (b := 0) (e := 0) (by decide +kernel) (get_st1 g0 (by decide) (fun q => absurd q.1 (by decide))) (by decide) ?_
      refine hw_ld (b := 2) (e := 0) (by decide +kernel) (get_st1 g2 (by decide) (fun q => absurd q.1 (by decide))) ?_
      refine hr_call (a0 := 22) (b := 240) (e := 2) (nl := 2) (As := [(0, l2)]) (R := []) 192 rfl (by decide +kernel) rfl rfl (Nat.le_of_ble_eq_true rfl) (Nat.le_of_ble_eq_true rfl) ?_
      refine hw_mono H ?_
      rintro r ψ11 y11 ⟨hyx, hψx, z11, hr, H⟩
      subst hyx
      subst hψx
      subst hr
      refine ⟨hne0, ?_⟩
      show hw sc (d + 2) 241 81 (jm_st1 L 4 (0, l4 + 1)) [(0, z11)] φ y11 Q
      refine hw_ald (b := 0) (e := 0) (by decide +kernel) (get_st1 g0 (by decide) (fun q => absurd q.1 (by decide))) (by decide) ?_
      refine hw_ld (b := 6) (e := 1) (by decide +kernel) (get_st1 g6 (by decide) (fun q => absurd q.1 (by decide))) ?_
      refine hr_call (a0 := 22) (b := 242) (e := 2) (nl := 4) (As := [(0, l6)]) (R := [(0, z11)]) 192 rfl (by decide +kernel) rfl rfl (Nat.le_of_ble_eq_true rfl) (Nat.le_of_ble_eq_true rfl) ?_
      refine hw_mono H ?_
      rintro r ψ12 y12 ⟨hyx, hψx, z12, hr, H⟩
      subst hyx
      subst hψx
      subst hr
      refine ⟨hne0, ?_⟩
      show hw sc (d + 2) 241 87 (jm_st1 L 4 (0, l4 + 1)) [(0, z12), (0, z11)] φ y12 Q
      refine hw_k (c := (-1 : Int)) (b := 0) (e := 1) (by decide +kernel) ?_
      refine hw_bin (w := hb_xor z12 (-1 : Int)) (a0 := 0) (b := 5) (e := 0) (by decide +kernel) rfl ?_
      refine hw_bin (w := hb_and z11 (hb_xor z12 (-1 : Int))) (a0 := 0) (b := 3) (e := 0) (by decide +kernel) rfl ?_
      obtain ⟨hz13, ht13, hf13⟩ := H
      refine hw_if (a0 := 0) (b := 0) (e := 117) (by decide +kernel) hz13 (fun q => ?_) (fun q => ?_)
      · have H := ht13 q
        refine hw_inc (L' := (jm_st1 (jm_st1 L 4 (0, l4 + 1)) 6 (0, l6 + 1))) (c := 1) (b := 6) (e := 0) (by decide +kernel) (get_st1 g6 (by decide) (fun q => absurd q.1 (by decide))) rfl ?_
        refine hw_goto (a0 := 0) (b := 0) (e := 48) (by decide +kernel) ?_
        exact H
      · have H := hf13 q
        refine hw_ald (b := 0) (e := 0) (by decide +kernel) (get_st1 g0 (by decide) (fun q => absurd q.1 (by decide))) (by decide) ?_
        refine hw_ld (b := 2) (e := 0) (by decide +kernel) (get_st1 g2 (by decide) (fun q => absurd q.1 (by decide))) ?_
        refine hr_call (a0 := 22) (b := 240) (e := 2) (nl := 2) (As := [(0, l2)]) (R := []) 192 rfl (by decide +kernel) rfl rfl (Nat.le_of_ble_eq_true rfl) (Nat.le_of_ble_eq_true rfl) ?_
        refine hw_mono H ?_
        rintro r ψ14 y14 ⟨hyx, hψx, z14, hr, H⟩
        subst hyx
        subst hψx
        subst hr
        refine ⟨hne0, ?_⟩
        show hw sc (d + 2) 241 98 (jm_st1 L 4 (0, l4 + 1)) [(0, z14)] φ y14 Q
        refine hw_ald (b := 0) (e := 0) (by decide +kernel) (get_st1 g0 (by decide) (fun q => absurd q.1 (by decide))) (by decide) ?_
        refine hw_ld (b := 6) (e := 1) (by decide +kernel) (get_st1 g6 (by decide) (fun q => absurd q.1 (by decide))) ?_
        refine hw_k (c := 1) (b := 0) (e := 1) (by decide +kernel) ?_
        refine hw_ld (b := 1) (e := 0) (by decide +kernel) (get_st1 g1 (by decide) (fun q => absurd q.1 (by decide))) ?_
        refine hw_bin (w := hb_shl 1 l1) (a0 := 0) (b := 6) (e := 0) (by decide +kernel) rfl ?_
        refine hw_bin (w := hb_or l6 (hb_shl 1 l1)) (a0 := 0) (b := 4) (e := 0) (by decide +kernel) rfl ?_
        refine hr_call (a0 := 22) (b := 242) (e := 2) (nl := 4) (As := [(0, hb_or l6 (hb_shl 1 l1))]) (R := [(0, z14)]) 192 rfl (by decide +kernel) rfl rfl (Nat.le_of_ble_eq_true rfl) (Nat.le_of_ble_eq_true rfl) ?_
        refine hw_mono H ?_
        rintro r ψ15 y15 ⟨hyx, hψx, z15, hr, H⟩
        subst hyx
        subst hψx
        subst hr
        refine ⟨hne0, ?_⟩
        show hw sc (d + 2) 241 108 (jm_st1 L 4 (0, l4 + 1)) [(0, z15), (0, z14)] φ y15 Q
        refine hw_k (c := (-1 : Int)) (b := 0) (e := 1) (by decide +kernel) ?_
        refine hw_bin (w := hb_xor z15 (-1 : Int)) (a0 := 0) (b := 5) (e := 0) (by decide +kernel) rfl ?_
        refine hw_bin (w := hb_and z14 (hb_xor z15 (-1 : Int))) (a0 := 0) (b := 3) (e := 0) (by decide +kernel) rfl ?_
        obtain ⟨hz16, ht16, hf16⟩ := H
        refine hw_if (a0 := 0) (b := 1) (e := 117) (by decide +kernel) hz16 (fun q => ?_) (fun q => ?_)
        · have H := ht16 q
          refine hw_inc (L' := (jm_st1 (jm_st1 L 4 (0, l4 + 1)) 6 (0, l6 + 1))) (c := 1) (b := 6) (e := 0) (by decide +kernel) (get_st1 g6 (by decide) (fun q => absurd q.1 (by decide))) rfl ?_
          refine hw_goto (a0 := 0) (b := 0) (e := 48) (by decide +kernel) ?_
          exact H
        · have H := hf16 q
          refine hw_inc (L' := (jm_st1 (jm_st1 L 4 (0, l4 + 1)) 5 (0, l5 + 1))) (c := 1) (b := 5) (e := 0) (by decide +kernel) (get_st1 g5 (by decide) (fun q => absurd q.1 (by decide))) rfl ?_
          refine hw_inc (L' := (jm_st1 (jm_st1 (jm_st1 L 4 (0, l4 + 1)) 5 (0, l5 + 1)) 6 (0, l6 + 1))) (c := 1) (b := 6) (e := 0) (by decide +kernel) (get_st1 (get_st1 g6 (by decide) (fun q => absurd q.1 (by decide))) (by decide) (fun q => absurd q.1 (by decide))) rfl ?_
          refine hw_goto (a0 := 0) (b := 0) (e := 48) (by decide +kernel) ?_
          exact H
    · have H := hf10 q
      refine hw_goto (a0 := 0) (b := 0) (e := 117) (by decide +kernel) ?_
      refine hw_inc (L' := (jm_st1 L 6 (0, l6 + 1))) (c := 1) (b := 6) (e := 0) (by decide +kernel) g6 rfl ?_
      refine hw_goto (a0 := 0) (b := 0) (e := 48) (by decide +kernel) ?_
      exact H
theorem sf_241_192_l48 {sc : List Int} {d x : Nat} {Q : Option jm_V → hf_F → Nat → Prop} : ∀ (n : Nat) (φ : hf_F) (L : jm_L) (l1 l2 l3 l4 l5 l6 : Int), jm_get L 0 = some (2, 192) → jm_get L 1 = some (0, l1) → jm_get L 2 = some (0, l2) → jm_get L 3 = some (0, l3) → jm_get L 4 = some (0, l4) → jm_get L 5 = some (0, l5) → jm_get L 6 = some (0, l6) → Inv φ → 256 - l6 < (n : Int) → 0 ≤ l1 → l1 ≤ 5 → 0 ≤ l2 → l2 ≤ 7 → 0 ≤ l3 → l3 ≤ 1 → 0 ≤ l4 → l4 ≤ 256 → 0 ≤ l5 → l5 ≤ 256 → 0 ≤ l6 → l6 ≤ 256 → l5 ≤ l4 → l4 ≤ l6 → (0 < l6 → 0 < l4) → (∀ (r : Int) (ψ : hf_F), Inv ψ → Fr [193000] φ ψ → True → F_RideLawsModel_power_192_l48 n φ l1 l2 l3 l4 l5 l6 = (r, ψ) → Q (some (0, r)) ψ x) → hw sc (d + 2) 241 48 L [] φ x Q := by
  intro n
  induction n with
  | zero =>
    intro φ L l1 l2 l3 l4 l5 l6 g0 g1 g2 g3 g4 g5 g6 hI hM b1a b1b b2a b2b b3a b3b b4a b4b b5a b5b b6a b6b c0 c1 c2 hQ
    exfalso
    omega
  | succ n ih =>
    intro φ L l1 l2 l3 l4 l5 l6 g0 g1 g2 g3 g4 g5 g6 hI hM b1a b1b b2a b2b b3a b3b b4a b4b b5a b5b b6a b6b c0 c1 c2 hQ
    refine sf_241_192_v48 g0 g1 g2 g3 g4 g5 g6 ?_
    have e0 := F_RideLawsModel_power_192_l48_s (φ := φ) (l1 := l1) (l2 := l2) (l3 := l3) (l4 := l4) (l5 := l5) (l6 := l6) n
    have f1 := iv_at (a := 194) (k := 3) (lo := 0) (u := 6) hI (by decide +kernel)
    have f2 := hr_shl1 (φ 194 3)
    have f3 := hr_shl 1 (φ 194 3)
    refine ⟨by unfold hi; omega, by unfold hi; omega, fun q1 => ?_, fun q1 => ?_⟩
    · skip
      have e1a := e0.trans (if_pos q1)
      refine ⟨by unfold hi; omega, fun q2 => ?_, fun q2 => ?_⟩
      · skip
        have e2a := e1a.trans (if_pos q2)
        have f4 := hi_n (z := l4) (by unfold hi; omega)
        have f5 := hi_n (z := l5) (by unfold hi; omega)
        refine sf_243 (φ := φ) hI (by omega) (fun z3 hp3 hE3 => ⟨rfl, rfl, z3, rfl, ?_⟩)
        have e3 := e2a.trans (bnp_e hE3)
        have f6 := hr_n z3
        have f7 := hr_n l4
        refine ⟨by omega, ?_⟩
        exact hQ ((jm_n l4).tdiv (jm_n z3)) φ hI (fr_rf) trivial e3
      · skip
        have e2b := e1a.trans (if_neg q2)
        have f8 := hi_n (z := l4) (by unfold hi; omega)
        have f9 := hi_n (z := l5) (by unfold hi; omega)
        refine sf_243 (φ := φ) hI (by omega) (fun z6 hp6 hE6 => ⟨rfl, rfl, z6, rfl, ?_⟩)
        have e6 := e2b.trans (bnp_e hE6)
        have f10 := hr_n z6
        have f11 := hr_n l5
        refine ⟨by omega, ?_⟩
        exact hQ ((jm_n l5).tdiv (jm_n z6)) φ hI (fr_rf) trivial e6
    · skip
      have e1b := e0.trans (if_neg q1)
      refine sf_197 (φ := φ) hI  (fun z9 hp9 hE9 => ⟨rfl, rfl, z9, rfl, ?_⟩)
      have e9 := e1b.trans (bnp_e hE9)
      refine ⟨by unfold hi; omega, fun q10 => ?_, fun q10 => ?_⟩
      · skip
        have e10a := e9.trans (if_pos q10)
        refine sf_240_192 (φ := φ) hI (by omega) (by omega) (fun z11 hp11 hE11 => ⟨rfl, rfl, z11, rfl, ?_⟩)
        have e11 := e10a.trans (bnp_e hE11)
        refine sf_242_192 (φ := φ) hI (by omega) (by omega) (fun z12 hp12 hE12 => ⟨rfl, rfl, z12, rfl, ?_⟩)
        have e12 := e11.trans (bnp_e hE12)
        have f12 := hr_xor z12 (-1 : Int)
        have f13 := hr_and0 z11 (hb_xor z12 (-1 : Int))
        have f14 := hr_and z11 (hb_xor z12 (-1 : Int))
        refine ⟨by unfold hi; omega, fun q13 => ?_, fun q13 => ?_⟩
        · skip
          have e13a := e12.trans (if_pos q13)
          exact ih φ (jm_st1 (jm_st1 L 4 (0, l4 + 1)) 6 (0, l6 + 1)) l1 l2 l3 (l4 + 1) l5 (l6 + 1) (get_st1 (get_st1 g0 (by decide) (fun q => absurd q.1 (by decide))) (by decide) (fun q => absurd q.1 (by decide))) (get_st1 (get_st1 g1 (by decide) (fun q => absurd q.1 (by decide))) (by decide) (fun q => absurd q.1 (by decide))) (get_st1 (get_st1 g2 (by decide) (fun q => absurd q.1 (by decide))) (by decide) (fun q => absurd q.1 (by decide))) (get_st1 (get_st1 g3 (by decide) (fun q => tg0 q.2)) (by decide) (fun q => absurd q.1 (by decide))) (get_st1 get_st1e (by decide) (fun q => absurd q.1 (by decide))) (get_st1 (get_st1 g5 (by decide) (fun q => absurd q.1 (by decide))) (by decide) (fun q => tg0 q.2)) get_st1e hI (by omega) (by omega) (by omega) (by omega) (by omega) (by omega) (by omega) (by omega) (by omega) (by omega) (by omega) (by omega) (by omega) (by omega) (by omega) (by omega) (fun rr χ hIχ hFχ hpχ hEχ => hQ rr χ hIχ (fr_tr (fr_rf) hFχ (by decide)) hpχ (e13a.trans hEχ))
        · skip
          have e13b := e12.trans (if_neg q13)
          refine sf_240_192 (φ := φ) hI (by omega) (by omega) (fun z14 hp14 hE14 => ⟨rfl, rfl, z14, rfl, ?_⟩)
          have e14 := e13b.trans (bnp_e hE14)
          have f15 := hr_shl1 l1
          have f16 := hr_shl 1 l1
          have f17 := hr_or l6 (hb_shl 1 l1)
          refine sf_242_192 (φ := φ) hI (by omega) (by omega) (fun z15 hp15 hE15 => ⟨rfl, rfl, z15, rfl, ?_⟩)
          have e15 := e14.trans (bnp_e hE15)
          have f18 := hr_xor z15 (-1 : Int)
          have f19 := hr_and0 z14 (hb_xor z15 (-1 : Int))
          have f20 := hr_and z14 (hb_xor z15 (-1 : Int))
          refine ⟨by unfold hi; omega, fun q16 => ?_, fun q16 => ?_⟩
          · skip
            have e16a := e15.trans (if_pos q16)
            exact ih φ (jm_st1 (jm_st1 L 4 (0, l4 + 1)) 6 (0, l6 + 1)) l1 l2 l3 (l4 + 1) l5 (l6 + 1) (get_st1 (get_st1 g0 (by decide) (fun q => absurd q.1 (by decide))) (by decide) (fun q => absurd q.1 (by decide))) (get_st1 (get_st1 g1 (by decide) (fun q => absurd q.1 (by decide))) (by decide) (fun q => absurd q.1 (by decide))) (get_st1 (get_st1 g2 (by decide) (fun q => absurd q.1 (by decide))) (by decide) (fun q => absurd q.1 (by decide))) (get_st1 (get_st1 g3 (by decide) (fun q => tg0 q.2)) (by decide) (fun q => absurd q.1 (by decide))) (get_st1 get_st1e (by decide) (fun q => absurd q.1 (by decide))) (get_st1 (get_st1 g5 (by decide) (fun q => absurd q.1 (by decide))) (by decide) (fun q => tg0 q.2)) get_st1e hI (by omega) (by omega) (by omega) (by omega) (by omega) (by omega) (by omega) (by omega) (by omega) (by omega) (by omega) (by omega) (by omega) (by omega) (by omega) (by omega) (fun rr χ hIχ hFχ hpχ hEχ => hQ rr χ hIχ (fr_tr (fr_rf) hFχ (by decide)) hpχ (e16a.trans hEχ))
          · skip
            have e16b := e15.trans (if_neg q16)
            exact ih φ (jm_st1 (jm_st1 (jm_st1 L 4 (0, l4 + 1)) 5 (0, l5 + 1)) 6 (0, l6 + 1)) l1 l2 l3 (l4 + 1) (l5 + 1) (l6 + 1) (get_st1 (get_st1 (get_st1 g0 (by decide) (fun q => absurd q.1 (by decide))) (by decide) (fun q => absurd q.1 (by decide))) (by decide) (fun q => absurd q.1 (by decide))) (get_st1 (get_st1 (get_st1 g1 (by decide) (fun q => absurd q.1 (by decide))) (by decide) (fun q => absurd q.1 (by decide))) (by decide) (fun q => absurd q.1 (by decide))) (get_st1 (get_st1 (get_st1 g2 (by decide) (fun q => absurd q.1 (by decide))) (by decide) (fun q => absurd q.1 (by decide))) (by decide) (fun q => absurd q.1 (by decide))) (get_st1 (get_st1 (get_st1 g3 (by decide) (fun q => tg0 q.2)) (by decide) (fun q => absurd q.1 (by decide))) (by decide) (fun q => absurd q.1 (by decide))) (get_st1 (get_st1 get_st1e (by decide) (fun q => tg0 q.2)) (by decide) (fun q => absurd q.1 (by decide))) (get_st1 get_st1e (by decide) (fun q => tg0 q.2)) get_st1e hI (by omega) (by omega) (by omega) (by omega) (by omega) (by omega) (by omega) (by omega) (by omega) (by omega) (by omega) (by omega) (by omega) (by omega) (by omega) (by omega) (fun rr χ hIχ hFχ hpχ hEχ => hQ rr χ hIχ (fr_tr (fr_rf) hFχ (by decide)) hpχ (e16b.trans hEχ))
      · skip
        have e10b := e9.trans (if_neg q10)
        exact ih φ (jm_st1 L 6 (0, l6 + 1)) l1 l2 l3 l4 l5 (l6 + 1) (get_st1 g0 (by decide) (fun q => absurd q.1 (by decide))) (get_st1 g1 (by decide) (fun q => absurd q.1 (by decide))) (get_st1 g2 (by decide) (fun q => absurd q.1 (by decide))) (get_st1 g3 (by decide) (fun q => absurd q.1 (by decide))) (get_st1 g4 (by decide) (fun q => absurd q.1 (by decide))) (get_st1 g5 (by decide) (fun q => tg0 q.2)) get_st1e hI (by omega) (by omega) (by omega) (by omega) (by omega) (by omega) (by omega) (by omega) (by omega) (by omega) (by omega) (by omega) (by omega) (by omega) (by omega) (by omega) (fun rr χ hIχ hFχ hpχ hEχ => hQ rr χ hIχ (fr_tr (fr_rf) hFχ (by decide)) hpχ (e10b.trans hEχ))
theorem sf_241_192_v {sc : List Int} {d : Nat} {φ : hf_F} {x : Nat} {Q : Option jm_V → hf_F → Nat → Prop} {v1 v2 v3 : Int}
    (H : hw sc (d + 1) 202 0 [(0, (2, 192)), (1, (0, v1))] [] φ x (fun r ψ1 y1 => y1 = x ∧ φ = ψ1 ∧ (∃ z1 : Int, r = some (0, z1) ∧ (hi z1 ∧ (z1 = 0 → hw sc (d + 1) 203 0 [(0, (2, 192)), (1, (0, 1))] [] φ x (fun r ψ3 y3 => y3 = x ∧ (∃ z3 : Int, r = some (0, z3) ∧ (hi z3 ∧ (z3 = 0 → hw sc (d + 2) 241 48 (jm_st1 (jm_st1 (jm_st1 [(0, (2, 192)), (1, (0, v1)), (2, (0, v2)), (3, (0, v3))] 4 (0, 0)) 5 (0, 0)) 6 (0, 0)) [] ψ3 x Q) ∧ (¬ z3 = 0 → Q (some (0, 0)) ψ3 x))))) ∧ (¬ z1 = 0 → hw sc (d + 1) 211 0 [(0, (2, 192)), (1, (0, v2))] [] φ x (fun r ψ6 y6 => y6 = x ∧ φ = ψ6 ∧ (∃ z6 : Int, r = some (0, z6) ∧ (hi z6 ∧ (z6 = 0 → hw sc (d + 1) 203 0 [(0, (2, 192)), (1, (0, 1))] [] φ x (fun r ψ8 y8 => y8 = x ∧ (∃ z8 : Int, r = some (0, z8) ∧ (hi z8 ∧ (z8 = 0 → hw sc (d + 2) 241 48 (jm_st1 (jm_st1 (jm_st1 [(0, (2, 192)), (1, (0, v1)), (2, (0, v2)), (3, (0, v3))] 4 (0, 0)) 5 (0, 0)) 6 (0, 0)) [] ψ8 x Q) ∧ (¬ z8 = 0 → Q (some (0, 0)) ψ8 x))))) ∧ (¬ z6 = 0 → hw sc (d + 1) 188 0 [(0, (0, v3)), (1, (0, 0)), (2, (0, 1))] [] φ x (fun r ψ11 y11 => y11 = x ∧ φ = ψ11 ∧ (∃ z11 : Int, r = some (0, z11) ∧ (hi z11 ∧ (¬ z11 = 0 → hw sc (d + 1) 203 0 [(0, (2, 192)), (1, (0, 0))] [] φ x (fun r ψ13 y13 => y13 = x ∧ (∃ z13 : Int, r = some (0, z13) ∧ (hi z13 ∧ (z13 = 0 → hw sc (d + 2) 241 48 (jm_st1 (jm_st1 (jm_st1 [(0, (2, 192)), (1, (0, v1)), (2, (0, v2)), (3, (0, v3))] 4 (0, 0)) 5 (0, 0)) 6 (0, 0)) [] ψ13 x Q) ∧ (¬ z13 = 0 → Q (some (0, 0)) ψ13 x))))) ∧ (¬ (¬ z11 = 0) → hw sc (d + 1) 203 0 [(0, (2, 192)), (1, (0, 1))] [] φ x (fun r ψ16 y16 => y16 = x ∧ (∃ z16 : Int, r = some (0, z16) ∧ (hi z16 ∧ (z16 = 0 → hw sc (d + 2) 241 48 (jm_st1 (jm_st1 (jm_st1 [(0, (2, 192)), (1, (0, v1)), (2, (0, v2)), (3, (0, v3))] 4 (0, 0)) 5 (0, 0)) 6 (0, 0)) [] ψ16 x Q) ∧ (¬ z16 = 0 → Q (some (0, 0)) ψ16 x))))))))))))))))) :
    hw sc (d + 2) 241 0 [(0, (2, 192)), (1, (0, v1)), (2, (0, v2)), (3, (0, v3))] [] φ x Q := by
  refine hw_ald (b := 0) (e := 0) (by decide +kernel) rfl (by decide) ?_
  refine hw_ald (b := 0) (e := 0) (by decide +kernel) rfl (by decide) ?_
  refine hw_ld (b := 1) (e := 0) (by decide +kernel) rfl ?_
  refine hr_call (a0 := 22) (b := 202) (e := 2) (nl := 2) (As := [(0, v1)]) (R := [(2, 192)]) 192 rfl (by decide +kernel) rfl rfl (Nat.le_of_ble_eq_true rfl) (Nat.le_of_ble_eq_true rfl) ?_
  refine hw_mono H ?_
  rintro r ψ1 y1 ⟨hyx, hψx, z1, hr, H⟩
  subst hyx
  subst hψx
  subst hr
  refine ⟨hne0, ?_⟩
  show hw sc (d + 2) 241 6 [(0, (2, 192)), (1, (0, v1)), (2, (0, v2)), (3, (0, v3))] [(0, z1), (2, 192)] φ y1 Q
  obtain ⟨hz2, ht2, hf2⟩ := H
  refine hw_if (a0 := 0) (b := 0) (e := 26) (by decide +kernel) hz2 (fun q => ?_) (fun q => ?_)
  · have H := ht2 q
    refine hw_k (c := 1) (b := 0) (e := 1) (by decide +kernel) ?_
    refine hw_goto (a0 := 0) (b := 0) (e := 31) (by decide +kernel) ?_
    refine hr_call (a0 := 22) (b := 203) (e := 2) (nl := 2) (As := [(0, 1)]) (R := []) 192 rfl (by decide +kernel) rfl rfl (Nat.le_of_ble_eq_true rfl) (Nat.le_of_ble_eq_true rfl) ?_
    refine hw_mono H ?_
    rintro r ψ3 y3 ⟨hyx, z3, hr, H⟩
    subst hyx
    subst hr
    refine ⟨hne0, ?_⟩
    show hw sc (d + 2) 241 34 [(0, (2, 192)), (1, (0, v1)), (2, (0, v2)), (3, (0, v3))] [(0, z3)] ψ3 y3 Q
    obtain ⟨hz4, ht4, hf4⟩ := H
    refine hw_if (a0 := 0) (b := 0) (e := 39) (by decide +kernel) hz4 (fun q => ?_) (fun q => ?_)
    · have H := ht4 q
      refine hw_k (c := 0) (b := 0) (e := 1) (by decide +kernel) ?_
      refine hw_st (L' := (jm_st1 [(0, (2, 192)), (1, (0, v1)), (2, (0, v2)), (3, (0, v3))] 4 (0, 0))) (b := 4) (e := 1) (by decide +kernel) rfl ?_
      refine hw_k (c := 0) (b := 0) (e := 1) (by decide +kernel) ?_
      refine hw_st (L' := (jm_st1 (jm_st1 [(0, (2, 192)), (1, (0, v1)), (2, (0, v2)), (3, (0, v3))] 4 (0, 0)) 5 (0, 0))) (b := 5) (e := 1) (by decide +kernel) rfl ?_
      refine hw_k (c := 0) (b := 0) (e := 1) (by decide +kernel) ?_
      refine hw_st (L' := (jm_st1 (jm_st1 (jm_st1 [(0, (2, 192)), (1, (0, v1)), (2, (0, v2)), (3, (0, v3))] 4 (0, 0)) 5 (0, 0)) 6 (0, 0))) (b := 6) (e := 1) (by decide +kernel) rfl ?_
      exact H
    · have H := hf4 q
      refine hw_k (c := 0) (b := 0) (e := 1) (by decide +kernel) ?_
      exact hw_ret (a0 := 0) (e := 0) (by decide +kernel) (Or.inl rfl) H
  · have H := hf2 q
    refine hw_ald (b := 0) (e := 0) (by decide +kernel) rfl (by decide) ?_
    refine hw_ld (b := 2) (e := 0) (by decide +kernel) rfl ?_
    refine hr_call (a0 := 22) (b := 211) (e := 2) (nl := 2) (As := [(0, v2)]) (R := [(2, 192)]) 192 rfl (by decide +kernel) rfl rfl (Nat.le_of_ble_eq_true rfl) (Nat.le_of_ble_eq_true rfl) ?_
    refine hw_mono H ?_
    rintro r ψ6 y6 ⟨hyx, hψx, z6, hr, H⟩
    subst hyx
    subst hψx
    subst hr
    refine ⟨hne0, ?_⟩
    show hw sc (d + 2) 241 14 [(0, (2, 192)), (1, (0, v1)), (2, (0, v2)), (3, (0, v3))] [(0, z6), (2, 192)] φ y6 Q
    obtain ⟨hz7, ht7, hf7⟩ := H
    refine hw_if (a0 := 0) (b := 0) (e := 26) (by decide +kernel) hz7 (fun q => ?_) (fun q => ?_)
    · have H := ht7 q
      refine hw_k (c := 1) (b := 0) (e := 1) (by decide +kernel) ?_
      refine hw_goto (a0 := 0) (b := 0) (e := 31) (by decide +kernel) ?_
      refine hr_call (a0 := 22) (b := 203) (e := 2) (nl := 2) (As := [(0, 1)]) (R := []) 192 rfl (by decide +kernel) rfl rfl (Nat.le_of_ble_eq_true rfl) (Nat.le_of_ble_eq_true rfl) ?_
      refine hw_mono H ?_
      rintro r ψ8 y8 ⟨hyx, z8, hr, H⟩
      subst hyx
      subst hr
      refine ⟨hne0, ?_⟩
      show hw sc (d + 2) 241 34 [(0, (2, 192)), (1, (0, v1)), (2, (0, v2)), (3, (0, v3))] [(0, z8)] ψ8 y8 Q
      obtain ⟨hz9, ht9, hf9⟩ := H
      refine hw_if (a0 := 0) (b := 0) (e := 39) (by decide +kernel) hz9 (fun q => ?_) (fun q => ?_)
      · have H := ht9 q
        refine hw_k (c := 0) (b := 0) (e := 1) (by decide +kernel) ?_
        refine hw_st (L' := (jm_st1 [(0, (2, 192)), (1, (0, v1)), (2, (0, v2)), (3, (0, v3))] 4 (0, 0))) (b := 4) (e := 1) (by decide +kernel) rfl ?_
        refine hw_k (c := 0) (b := 0) (e := 1) (by decide +kernel) ?_
        refine hw_st (L' := (jm_st1 (jm_st1 [(0, (2, 192)), (1, (0, v1)), (2, (0, v2)), (3, (0, v3))] 4 (0, 0)) 5 (0, 0))) (b := 5) (e := 1) (by decide +kernel) rfl ?_
        refine hw_k (c := 0) (b := 0) (e := 1) (by decide +kernel) ?_
        refine hw_st (L' := (jm_st1 (jm_st1 (jm_st1 [(0, (2, 192)), (1, (0, v1)), (2, (0, v2)), (3, (0, v3))] 4 (0, 0)) 5 (0, 0)) 6 (0, 0))) (b := 6) (e := 1) (by decide +kernel) rfl ?_
        exact H
      · have H := hf9 q
        refine hw_k (c := 0) (b := 0) (e := 1) (by decide +kernel) ?_
        exact hw_ret (a0 := 0) (e := 0) (by decide +kernel) (Or.inl rfl) H
    · have H := hf7 q
      refine hw_ld (b := 3) (e := 0) (by decide +kernel) rfl ?_
      refine hw_k (c := 0) (b := 0) (e := 1) (by decide +kernel) ?_
      refine hw_k (c := 1) (b := 0) (e := 1) (by decide +kernel) ?_
      refine hr_calls (b := 188) (e := 3) (nl := 3) (As := [(0, v3), (0, 0), (0, 1)]) (R := [(2, 192)]) (by decide +kernel) rfl rfl (Nat.le_of_ble_eq_true rfl) (Nat.le_of_ble_eq_true rfl) ?_
      refine hw_mono H ?_
      rintro r ψ11 y11 ⟨hyx, hψx, z11, hr, H⟩
      subst hyx
      subst hψx
      subst hr
      refine ⟨hne0, ?_⟩
      show hw sc (d + 2) 241 23 [(0, (2, 192)), (1, (0, v1)), (2, (0, v2)), (3, (0, v3))] [(0, z11), (2, 192)] φ y11 Q
      obtain ⟨hz12, ht12, hf12⟩ := H
      refine hw_if (a0 := 0) (b := 1) (e := 30) (by decide +kernel) hz12 (fun q => ?_) (fun q => ?_)
      · have H := ht12 q
        refine hw_k (c := 0) (b := 0) (e := 1) (by decide +kernel) ?_
        refine hr_call (a0 := 22) (b := 203) (e := 2) (nl := 2) (As := [(0, 0)]) (R := []) 192 rfl (by decide +kernel) rfl rfl (Nat.le_of_ble_eq_true rfl) (Nat.le_of_ble_eq_true rfl) ?_
        refine hw_mono H ?_
        rintro r ψ13 y13 ⟨hyx, z13, hr, H⟩
        subst hyx
        subst hr
        refine ⟨hne0, ?_⟩
        show hw sc (d + 2) 241 34 [(0, (2, 192)), (1, (0, v1)), (2, (0, v2)), (3, (0, v3))] [(0, z13)] ψ13 y13 Q
        obtain ⟨hz14, ht14, hf14⟩ := H
        refine hw_if (a0 := 0) (b := 0) (e := 39) (by decide +kernel) hz14 (fun q => ?_) (fun q => ?_)
        · have H := ht14 q
          refine hw_k (c := 0) (b := 0) (e := 1) (by decide +kernel) ?_
          refine hw_st (L' := (jm_st1 [(0, (2, 192)), (1, (0, v1)), (2, (0, v2)), (3, (0, v3))] 4 (0, 0))) (b := 4) (e := 1) (by decide +kernel) rfl ?_
          refine hw_k (c := 0) (b := 0) (e := 1) (by decide +kernel) ?_
          refine hw_st (L' := (jm_st1 (jm_st1 [(0, (2, 192)), (1, (0, v1)), (2, (0, v2)), (3, (0, v3))] 4 (0, 0)) 5 (0, 0))) (b := 5) (e := 1) (by decide +kernel) rfl ?_
          refine hw_k (c := 0) (b := 0) (e := 1) (by decide +kernel) ?_
          refine hw_st (L' := (jm_st1 (jm_st1 (jm_st1 [(0, (2, 192)), (1, (0, v1)), (2, (0, v2)), (3, (0, v3))] 4 (0, 0)) 5 (0, 0)) 6 (0, 0))) (b := 6) (e := 1) (by decide +kernel) rfl ?_
          exact H
        · have H := hf14 q
          refine hw_k (c := 0) (b := 0) (e := 1) (by decide +kernel) ?_
          exact hw_ret (a0 := 0) (e := 0) (by decide +kernel) (Or.inl rfl) H
      · have H := hf12 q
        refine hw_k (c := 1) (b := 0) (e := 1) (by decide +kernel) ?_
        refine hw_goto (a0 := 0) (b := 0) (e := 31) (by decide +kernel) ?_
        refine hr_call (a0 := 22) (b := 203) (e := 2) (nl := 2) (As := [(0, 1)]) (R := []) 192 rfl (by decide +kernel) rfl rfl (Nat.le_of_ble_eq_true rfl) (Nat.le_of_ble_eq_true rfl) ?_
        refine hw_mono H ?_
        rintro r ψ16 y16 ⟨hyx, z16, hr, H⟩
        subst hyx
        subst hr
        refine ⟨hne0, ?_⟩
        show hw sc (d + 2) 241 34 [(0, (2, 192)), (1, (0, v1)), (2, (0, v2)), (3, (0, v3))] [(0, z16)] ψ16 y16 Q
        obtain ⟨hz17, ht17, hf17⟩ := H
        refine hw_if (a0 := 0) (b := 0) (e := 39) (by decide +kernel) hz17 (fun q => ?_) (fun q => ?_)
        · have H := ht17 q
          refine hw_k (c := 0) (b := 0) (e := 1) (by decide +kernel) ?_
          refine hw_st (L' := (jm_st1 [(0, (2, 192)), (1, (0, v1)), (2, (0, v2)), (3, (0, v3))] 4 (0, 0))) (b := 4) (e := 1) (by decide +kernel) rfl ?_
          refine hw_k (c := 0) (b := 0) (e := 1) (by decide +kernel) ?_
          refine hw_st (L' := (jm_st1 (jm_st1 [(0, (2, 192)), (1, (0, v1)), (2, (0, v2)), (3, (0, v3))] 4 (0, 0)) 5 (0, 0))) (b := 5) (e := 1) (by decide +kernel) rfl ?_
          refine hw_k (c := 0) (b := 0) (e := 1) (by decide +kernel) ?_
          refine hw_st (L' := (jm_st1 (jm_st1 (jm_st1 [(0, (2, 192)), (1, (0, v1)), (2, (0, v2)), (3, (0, v3))] 4 (0, 0)) 5 (0, 0)) 6 (0, 0))) (b := 6) (e := 1) (by decide +kernel) rfl ?_
          exact H
        · have H := hf17 q
          refine hw_k (c := 0) (b := 0) (e := 1) (by decide +kernel) ?_
          exact hw_ret (a0 := 0) (e := 0) (by decide +kernel) (Or.inl rfl) H
theorem sf_241_192 {sc : List Int} {d : Nat} {φ : hf_F} {x : Nat} {Q : Option jm_V → hf_F → Nat → Prop} {v1 v2 v3 : Int} (hI : Inv φ) (h1a : (-2147483648 : Int) ≤ v1) (h1b : v1 ≤ 2147483647) (h2a : (-2147483648 : Int) ≤ v2) (h2b : v2 ≤ 2147483647) (h3a : (-2147483648 : Int) ≤ v3) (h3b : v3 ≤ 2147483647) (hQ : ∀ (r : Int) (ψ : hf_F), Inv ψ → Fr [193000] φ ψ → True → F_RideLawsModel_power_192 φ v1 v2 v3 = (r, ψ) → Q (some (0, r)) ψ x) : hw sc (d + 2) 241 0 [(0, (2, 192)), (1, (0, v1)), (2, (0, v2)), (3, (0, v3))] [] φ x Q := by
  apply sf_241_192_v
  have e0 : F_RideLawsModel_power_192 φ v1 v2 v3 = _ := rfl
  refine sf_202_192 (φ := φ) hI (by omega) (by omega) (fun z1 hp1 hE1 => ⟨rfl, rfl, z1, rfl, ?_⟩)
  have e1 := e0.trans (bnp_e hE1)
  have f1 := iv_at (a := 194) (k := 3) (lo := 0) (u := 6) hI (by decide +kernel)
  refine ⟨by unfold hi; omega, fun q2 => ?_, fun q2 => ?_⟩
  · skip
    have e2a := e1.trans (if_pos q2)
    refine sf_203_192 (φ := φ) hI (by omega) (by omega) (fun z3 ψ3 hI3 hF3 hp3 hE3 => ⟨rfl, z3, rfl, ?_⟩)
    have hG3 : Fr [193000] φ ψ3 := fr_tr (fr_rf) hF3 (by decide)
    have e3 := e2a.trans (bnd_e hE3)
    refine ⟨by unfold hi; omega, fun q4 => ?_, fun q4 => ?_⟩
    · skip
      have e4a := e3.trans (if_pos q4)
      exact sf_241_192_l48 ((256 - 0 : Int).toNat + 1) ψ3 (jm_st1 (jm_st1 (jm_st1 [(0, (2, 192)), (1, (0, v1)), (2, (0, v2)), (3, (0, v3))] 4 (0, 0)) 5 (0, 0)) 6 (0, 0)) v1 v2 v3 0 0 0 (get_st1 (get_st1 (get_st1 rfl (by decide) (fun q => absurd q.1 (by decide))) (by decide) (fun q => absurd q.1 (by decide))) (by decide) (fun q => absurd q.1 (by decide))) (get_st1 (get_st1 (get_st1 rfl (by decide) (fun q => absurd q.1 (by decide))) (by decide) (fun q => absurd q.1 (by decide))) (by decide) (fun q => absurd q.1 (by decide))) (get_st1 (get_st1 (get_st1 rfl (by decide) (fun q => absurd q.1 (by decide))) (by decide) (fun q => absurd q.1 (by decide))) (by decide) (fun q => absurd q.1 (by decide))) (get_st1 (get_st1 (get_st1 rfl (by decide) (fun q => tg0 q.2)) (by decide) (fun q => absurd q.1 (by decide))) (by decide) (fun q => absurd q.1 (by decide))) (get_st1 (get_st1 get_st1e (by decide) (fun q => tg0 q.2)) (by decide) (fun q => absurd q.1 (by decide))) (get_st1 get_st1e (by decide) (fun q => tg0 q.2)) get_st1e hI3 (by omega) (by omega) (by omega) (by omega) (by omega) (by omega) (by omega) (by omega) (by omega) (by omega) (by omega) (by omega) (by omega) (by omega) (by omega) (by omega) (fun rr χ hIχ hFχ hpχ hEχ => hQ rr χ hIχ (fr_tr hG3 hFχ (by decide)) hpχ (e4a.trans hEχ))
    · skip
      have e4b := e3.trans (if_neg q4)
      exact hQ 0 ψ3 hI3 hG3 trivial e4b
  · skip
    have e2b := e1.trans (if_neg q2)
    refine sf_211_192 (φ := φ) hI (by omega) (by omega) (fun z6 hp6 hE6 => ⟨rfl, rfl, z6, rfl, ?_⟩)
    have e6 := e2b.trans (bnp_e hE6)
    have f2 := iv_at (a := 194) (k := 4) (lo := 0) (u := 8) hI (by decide +kernel)
    refine ⟨by unfold hi; omega, fun q7 => ?_, fun q7 => ?_⟩
    · skip
      have e7a := e6.trans (if_pos q7)
      refine sf_203_192 (φ := φ) hI (by omega) (by omega) (fun z8 ψ8 hI8 hF8 hp8 hE8 => ⟨rfl, z8, rfl, ?_⟩)
      have hG8 : Fr [193000] φ ψ8 := fr_tr (fr_rf) hF8 (by decide)
      have e8 := e7a.trans (bnd_e hE8)
      refine ⟨by unfold hi; omega, fun q9 => ?_, fun q9 => ?_⟩
      · skip
        have e9a := e8.trans (if_pos q9)
        exact sf_241_192_l48 ((256 - 0 : Int).toNat + 1) ψ8 (jm_st1 (jm_st1 (jm_st1 [(0, (2, 192)), (1, (0, v1)), (2, (0, v2)), (3, (0, v3))] 4 (0, 0)) 5 (0, 0)) 6 (0, 0)) v1 v2 v3 0 0 0 (get_st1 (get_st1 (get_st1 rfl (by decide) (fun q => absurd q.1 (by decide))) (by decide) (fun q => absurd q.1 (by decide))) (by decide) (fun q => absurd q.1 (by decide))) (get_st1 (get_st1 (get_st1 rfl (by decide) (fun q => absurd q.1 (by decide))) (by decide) (fun q => absurd q.1 (by decide))) (by decide) (fun q => absurd q.1 (by decide))) (get_st1 (get_st1 (get_st1 rfl (by decide) (fun q => absurd q.1 (by decide))) (by decide) (fun q => absurd q.1 (by decide))) (by decide) (fun q => absurd q.1 (by decide))) (get_st1 (get_st1 (get_st1 rfl (by decide) (fun q => tg0 q.2)) (by decide) (fun q => absurd q.1 (by decide))) (by decide) (fun q => absurd q.1 (by decide))) (get_st1 (get_st1 get_st1e (by decide) (fun q => tg0 q.2)) (by decide) (fun q => absurd q.1 (by decide))) (get_st1 get_st1e (by decide) (fun q => tg0 q.2)) get_st1e hI8 (by omega) (by omega) (by omega) (by omega) (by omega) (by omega) (by omega) (by omega) (by omega) (by omega) (by omega) (by omega) (by omega) (by omega) (by omega) (by omega) (fun rr χ hIχ hFχ hpχ hEχ => hQ rr χ hIχ (fr_tr hG8 hFχ (by decide)) hpχ (e9a.trans hEχ))
      · skip
        have e9b := e8.trans (if_neg q9)
        exact hQ 0 ψ8 hI8 hG8 trivial e9b
    · skip
      have e7b := e6.trans (if_neg q7)
      refine sf_188 (φ := φ) hI (by omega) (by omega) (by omega) (by omega) (by omega) (by omega) (fun z11 hp11 hE11 => ⟨rfl, rfl, z11, rfl, ?_⟩)
      have e11 := e7b.trans (bnp_e hE11)
      refine ⟨by unfold hi; omega, fun q12 => ?_, fun q12 => ?_⟩
      · skip
        have e12a := e11.trans (if_pos q12)
        refine sf_203_192 (φ := φ) hI (by omega) (by omega) (fun z13 ψ13 hI13 hF13 hp13 hE13 => ⟨rfl, z13, rfl, ?_⟩)
        have hG13 : Fr [193000] φ ψ13 := fr_tr (fr_rf) hF13 (by decide)
        have e13 := e12a.trans (bnd_e hE13)
        refine ⟨by unfold hi; omega, fun q14 => ?_, fun q14 => ?_⟩
        · skip
          have e14a := e13.trans (if_pos q14)
          exact sf_241_192_l48 ((256 - 0 : Int).toNat + 1) ψ13 (jm_st1 (jm_st1 (jm_st1 [(0, (2, 192)), (1, (0, v1)), (2, (0, v2)), (3, (0, v3))] 4 (0, 0)) 5 (0, 0)) 6 (0, 0)) v1 v2 v3 0 0 0 (get_st1 (get_st1 (get_st1 rfl (by decide) (fun q => absurd q.1 (by decide))) (by decide) (fun q => absurd q.1 (by decide))) (by decide) (fun q => absurd q.1 (by decide))) (get_st1 (get_st1 (get_st1 rfl (by decide) (fun q => absurd q.1 (by decide))) (by decide) (fun q => absurd q.1 (by decide))) (by decide) (fun q => absurd q.1 (by decide))) (get_st1 (get_st1 (get_st1 rfl (by decide) (fun q => absurd q.1 (by decide))) (by decide) (fun q => absurd q.1 (by decide))) (by decide) (fun q => absurd q.1 (by decide))) (get_st1 (get_st1 (get_st1 rfl (by decide) (fun q => tg0 q.2)) (by decide) (fun q => absurd q.1 (by decide))) (by decide) (fun q => absurd q.1 (by decide))) (get_st1 (get_st1 get_st1e (by decide) (fun q => tg0 q.2)) (by decide) (fun q => absurd q.1 (by decide))) (get_st1 get_st1e (by decide) (fun q => tg0 q.2)) get_st1e hI13 (by omega) (by omega) (by omega) (by omega) (by omega) (by omega) (by omega) (by omega) (by omega) (by omega) (by omega) (by omega) (by omega) (by omega) (by omega) (by omega) (fun rr χ hIχ hFχ hpχ hEχ => hQ rr χ hIχ (fr_tr hG13 hFχ (by decide)) hpχ (e14a.trans hEχ))
        · skip
          have e14b := e13.trans (if_neg q14)
          exact hQ 0 ψ13 hI13 hG13 trivial e14b
      · skip
        have e12b := e11.trans (if_neg q12)
        refine sf_203_192 (φ := φ) hI (by omega) (by omega) (fun z16 ψ16 hI16 hF16 hp16 hE16 => ⟨rfl, z16, rfl, ?_⟩)
        have hG16 : Fr [193000] φ ψ16 := fr_tr (fr_rf) hF16 (by decide)
        have e16 := e12b.trans (bnd_e hE16)
        refine ⟨by unfold hi; omega, fun q17 => ?_, fun q17 => ?_⟩
        · skip
          have e17a := e16.trans (if_pos q17)
          exact sf_241_192_l48 ((256 - 0 : Int).toNat + 1) ψ16 (jm_st1 (jm_st1 (jm_st1 [(0, (2, 192)), (1, (0, v1)), (2, (0, v2)), (3, (0, v3))] 4 (0, 0)) 5 (0, 0)) 6 (0, 0)) v1 v2 v3 0 0 0 (get_st1 (get_st1 (get_st1 rfl (by decide) (fun q => absurd q.1 (by decide))) (by decide) (fun q => absurd q.1 (by decide))) (by decide) (fun q => absurd q.1 (by decide))) (get_st1 (get_st1 (get_st1 rfl (by decide) (fun q => absurd q.1 (by decide))) (by decide) (fun q => absurd q.1 (by decide))) (by decide) (fun q => absurd q.1 (by decide))) (get_st1 (get_st1 (get_st1 rfl (by decide) (fun q => absurd q.1 (by decide))) (by decide) (fun q => absurd q.1 (by decide))) (by decide) (fun q => absurd q.1 (by decide))) (get_st1 (get_st1 (get_st1 rfl (by decide) (fun q => tg0 q.2)) (by decide) (fun q => absurd q.1 (by decide))) (by decide) (fun q => absurd q.1 (by decide))) (get_st1 (get_st1 get_st1e (by decide) (fun q => tg0 q.2)) (by decide) (fun q => absurd q.1 (by decide))) (get_st1 get_st1e (by decide) (fun q => tg0 q.2)) get_st1e hI16 (by omega) (by omega) (by omega) (by omega) (by omega) (by omega) (by omega) (by omega) (by omega) (by omega) (by omega) (by omega) (by omega) (by omega) (by omega) (by omega) (fun rr χ hIχ hFχ hpχ hEχ => hQ rr χ hIχ (fr_tr hG16 hFχ (by decide)) hpχ (e17a.trans hEχ))
        · skip
          have e17b := e16.trans (if_neg q17)
          exact hQ 0 ψ16 hI16 hG16 trivial e17b
theorem sf_245_v4 {sc : List Int} {d : Nat} {φ : hf_F} {x : Nat} {Q : Option jm_V → hf_F → Nat → Prop} {L : jm_L} {l0 l1 l2 : Int} (g0 : jm_get L 0 = some (0, l0)) (g1 : jm_get L 1 = some (0, l1)) (g2 : jm_get L 2 = some (0, l2))
    (H : hi l2 ∧ (l2 = 0 → Q (some (0, l1)) φ x) ∧ (¬ l2 = 0 → hw sc d 245 4 (jm_st1 (jm_st1 L 1 (0, l1 + 1)) 2 (0, hb_and l2 (l2 - 1))) [] φ x Q)) :
    hw sc d 245 4 L [] φ x Q := by
  refine hw_ld (b := 2) (e := 0) (by decide +kernel) g2 ?_
  obtain ⟨hz1, ht1, hf1⟩ := H
  refine hw_if (a0 := 0) (b := 0) (e := 20) (by decide +kernel) hz1 (fun q => ?_) (fun q => ?_)
  · have H := ht1 q
    refine hw_ld (b := 1) (e := 0) (by decide +kernel) g1 ?_
    exact hw_ret (a0 := 0) (e := 0) (by decide +kernel) (Or.inl rfl) H
  · have H := hf1 q
    refine hw_inc (L' := (jm_st1 L 1 (0, l1 + 1))) (c := 1) (b := 1) (e := 0) (by decide +kernel) g1 rfl ?_
    refine hw_ld (b := 2) (e := 0) (by decide +kernel) (get_st1 g2 (by decide) (fun q => absurd q.1 (by decide))) ?_
    refine hw_ld (b := 2) (e := 0) (by decide +kernel) (get_st1 g2 (by decide) (fun q => absurd q.1 (by decide))) ?_
    refine hw_k (c := 1) (b := 0) (e := 1) (by decide +kernel) ?_
    refine hw_bin (w := l2 - 1) (a0 := 0) (b := 1) (e := 0) (by decide +kernel) rfl ?_
    refine hw_bin (w := hb_and l2 (l2 - 1)) (a0 := 0) (b := 3) (e := 0) (by decide +kernel) rfl ?_
    refine hw_st (L' := (jm_st1 (jm_st1 L 1 (0, l1 + 1)) 2 (0, hb_and l2 (l2 - 1)))) (b := 2) (e := 0) (by decide +kernel) rfl ?_
    refine hw_goto (a0 := 0) (b := 0) (e := 4) (by decide +kernel) ?_
    exact H
theorem sf_245_l4 {sc : List Int} {d x : Nat} {Q : Option jm_V → hf_F → Nat → Prop} : ∀ (n : Nat) (φ : hf_F) (L : jm_L) (l0 l1 l2 : Int), jm_get L 0 = some (0, l0) → jm_get L 1 = some (0, l1) → jm_get L 2 = some (0, l2) → Inv φ → l2 < (n : Int) → 0 ≤ l2 → l2 ≤ 256 → (∀ (r : Int), True → F_RideLawsModel_bits_l4 n φ l0 l1 l2 = r → Q (some (0, r)) φ x) → hw sc d 245 4 L [] φ x Q := by
  intro n
  induction n with
  | zero =>
    intro φ L l0 l1 l2 g0 g1 g2 hI hM b2a b2b hQ
    exfalso
    omega
  | succ n ih =>
    intro φ L l0 l1 l2 g0 g1 g2 hI hM b2a b2b hQ
    refine sf_245_v4 g0 g1 g2 ?_
    have ffx83426 := hr_andd l2
    have e0 := F_RideLawsModel_bits_l4_s (φ := φ) (l0 := l0) (l1 := l1) (l2 := l2) n
    refine ⟨by unfold hi; omega, fun q1 => ?_, fun q1 => ?_⟩
    · skip
      have e1a := e0.trans (if_pos q1)
      exact hQ l1 trivial e1a
    · skip
      have e1b := e0.trans (if_neg q1)
      have f1 := hr_and0 l2 (l2 - 1)
      have f2 := hr_and l2 (l2 - 1)
      exact ih φ (jm_st1 (jm_st1 L 1 (0, l1 + 1)) 2 (0, hb_and l2 (l2 - 1))) l0 (l1 + 1) (hb_and l2 (l2 - 1)) (get_st1 (get_st1 g0 (by decide) (fun q => tg0 q.2)) (by decide) (fun q => absurd q.1 (by decide))) (get_st1 get_st1e (by decide) (fun q => tg0 q.2)) get_st1e hI (by omega) (by omega) (by omega) (fun rr hpχ hEχ => hQ rr hpχ (e1b.trans hEχ))
theorem sf_245_v {sc : List Int} {d : Nat} {φ : hf_F} {x : Nat} {Q : Option jm_V → hf_F → Nat → Prop} {v0 : Int}
    (H : hw sc d 245 4 (jm_st1 (jm_st1 [(0, (0, v0))] 1 (0, 0)) 2 (0, v0)) [] φ x Q) :
    hw sc d 245 0 [(0, (0, v0))] [] φ x Q := by
  refine hw_k (c := 0) (b := 0) (e := 1) (by decide +kernel) ?_
  refine hw_st (L' := (jm_st1 [(0, (0, v0))] 1 (0, 0))) (b := 1) (e := 0) (by decide +kernel) rfl ?_
  refine hw_ld (b := 0) (e := 0) (by decide +kernel) (get_st1 rfl (by decide) (fun q => tg0 q.2)) ?_
  refine hw_st (L' := (jm_st1 (jm_st1 [(0, (0, v0))] 1 (0, 0)) 2 (0, v0))) (b := 2) (e := 0) (by decide +kernel) rfl ?_
  exact H
theorem sf_245 {sc : List Int} {d : Nat} {φ : hf_F} {x : Nat} {Q : Option jm_V → hf_F → Nat → Prop} {v0 : Int} (hI : Inv φ) (h0a : 0 ≤ v0) (h0b : v0 ≤ 256) (hQ : ∀ (r : Int), True → F_RideLawsModel_bits φ v0 = r → Q (some (0, r)) φ x) : hw sc d 245 0 [(0, (0, v0))] [] φ x Q := by
  apply sf_245_v
  have e0 : F_RideLawsModel_bits φ v0 = _ := rfl
  exact sf_245_l4 ((v0 : Int).toNat + 1) φ (jm_st1 (jm_st1 [(0, (0, v0))] 1 (0, 0)) 2 (0, v0)) v0 0 v0 (get_st1 (get_st1 rfl (by decide) (fun q => tg0 q.2)) (by decide) (fun q => absurd q.1 (by decide))) (get_st1 get_st1e (by decide) (fun q => tg0 q.2)) get_st1e hI (by omega) (by omega) (by omega) (fun rr hpχ hEχ => hQ rr hpχ (e0.trans hEχ))
theorem sf_244_192_v41 {sc : List Int} {d : Nat} {φ : hf_F} {x : Nat} {Q : Option jm_V → hf_F → Nat → Prop} {L : jm_L} {l1 l2 l3 l4 : Int} (g0 : jm_get L 0 = some (2, 192)) (g1 : jm_get L 1 = some (0, l1)) (g2 : jm_get L 2 = some (0, l2)) (g3 : jm_get L 3 = some (0, l3)) (g4 : jm_get L 4 = some (0, l4))
    (H : hi l4 ∧ hi (φ 194 4) ∧ ((φ 194 4) ≤ l4 → hi l3 ∧ (l3 = 0 → hw sc (d + 1) 244 9 (jm_st1 L 2 (0, l2 + 1)) [] φ x Q) ∧ (¬ l3 = 0 → hw sc (d + 1) 244 9 (jm_st1 (jm_st1 L 1 (0, l2)) 2 (0, l2 + 1)) [] φ x Q)) ∧ (¬ (φ 194 4) ≤ l4 → hi l3 ∧ (l3 = 0 → hi l3 ∧ (l3 = 0 → hw sc (d + 1) 244 9 (jm_st1 L 2 (0, l2 + 1)) [] φ x Q) ∧ (¬ l3 = 0 → hw sc (d + 1) 244 9 (jm_st1 (jm_st1 L 1 (0, l2)) 2 (0, l2 + 1)) [] φ x Q)) ∧ (¬ l3 = 0 → hw sc d 197 0 [(0, (0, l2)), (1, (0, l4))] [] φ x (fun r ψ5 y5 => y5 = x ∧ φ = ψ5 ∧ (∃ z5 : Int, r = some (0, z5) ∧ (hi z5 ∧ (z5 = 0 → hw sc (d + 1) 244 41 (jm_st1 (jm_st1 L 3 (0, 1)) 4 (0, l4 + 1)) [] φ x Q) ∧ (¬ z5 = 0 → 0 ≤ (91 + l4) ∧ (91 + l4) < 361 ∧ (hi (hb_and (φ 194 ((91 + l4).toNat)) l2) ∧ (¬ (hb_and (φ 194 ((91 + l4).toNat)) l2) = 0 → hw sc (d + 1) 244 41 (jm_st1 (jm_st1 L 3 (0, 0)) 4 (0, l4 + 1)) [] φ x Q) ∧ (¬ (¬ (hb_and (φ 194 ((91 + l4).toNat)) l2) = 0) → hw sc (d + 1) 244 41 (jm_st1 (jm_st1 L 3 (0, 1)) 4 (0, l4 + 1)) [] φ x Q))))))))) :
    hw sc (d + 1) 244 41 L [] φ x Q := by
  refine hw_ld (b := 4) (e := 1) (by decide +kernel) g4 ?_
  refine hw_ald (b := 0) (e := 0) (by decide +kernel) g0 (by decide) ?_
  refine hr_gr (w := 194) (b := 12) (e := 6) 192 rfl (by decide +kernel) ?_
  refine hw_k (c := 4) (b := 0) (e := 1) (by decide +kernel) ?_
  refine hr_al (b := 0) (a0 := 0) (e := 0) (n := 361) (w := φ 194 4) 194 rfl (by decide +kernel) (by decide) (by decide) (by decide) rfl ?_
  obtain ⟨hz1, hy1, ht1, hf1⟩ := H
  refine hw_if2 (a0 := 0) (b := 3) (e := 92) (by decide +kernel) hz1 hy1 (fun q => ?_) (fun q => ?_)
  · have H := ht1 q
    refine hw_ld (b := 3) (e := 0) (by decide +kernel) g3 ?_
    obtain ⟨hz2, ht2, hf2⟩ := H
    refine hw_if (a0 := 0) (b := 0) (e := 98) (by decide +kernel) hz2 (fun q => ?_) (fun q => ?_)
    · have H := ht2 q
      refine hw_inc (L' := (jm_st1 L 2 (0, l2 + 1))) (c := 1) (b := 2) (e := 0) (by decide +kernel) g2 rfl ?_
      refine hw_goto (a0 := 0) (b := 0) (e := 9) (by decide +kernel) ?_
      exact H
    · have H := hf2 q
      refine hw_ld (b := 2) (e := 0) (by decide +kernel) g2 ?_
      refine hw_st (L' := (jm_st1 L 1 (0, l2))) (b := 1) (e := 0) (by decide +kernel) rfl ?_
      refine hw_inc (L' := (jm_st1 (jm_st1 L 1 (0, l2)) 2 (0, l2 + 1))) (c := 1) (b := 2) (e := 0) (by decide +kernel) (get_st1 g2 (by decide) (fun q => absurd q.1 (by decide))) rfl ?_
      refine hw_goto (a0 := 0) (b := 0) (e := 9) (by decide +kernel) ?_
      exact H
  · have H := hf1 q
    refine hw_ld (b := 3) (e := 0) (by decide +kernel) g3 ?_
    obtain ⟨hz3, ht3, hf3⟩ := H
    refine hw_if (a0 := 0) (b := 0) (e := 92) (by decide +kernel) hz3 (fun q => ?_) (fun q => ?_)
    · have H := ht3 q
      refine hw_ld (b := 3) (e := 0) (by decide +kernel) g3 ?_
      obtain ⟨hz4, ht4, hf4⟩ := H
      refine hw_if (a0 := 0) (b := 0) (e := 98) (by decide +kernel) hz4 (fun q => ?_) (fun q => ?_)
      · have H := ht4 q
        refine hw_inc (L' := (jm_st1 L 2 (0, l2 + 1))) (c := 1) (b := 2) (e := 0) (by decide +kernel) g2 rfl ?_
        refine hw_goto (a0 := 0) (b := 0) (e := 9) (by decide +kernel) ?_
        exact H
      · have H := hf4 q
        refine hw_ld (b := 2) (e := 0) (by decide +kernel) g2 ?_
        refine hw_st (L' := (jm_st1 L 1 (0, l2))) (b := 1) (e := 0) (by decide +kernel) rfl ?_
        refine hw_inc (L' := (jm_st1 (jm_st1 L 1 (0, l2)) 2 (0, l2 + 1))) (c := 1) (b := 2) (e := 0) (by decide +kernel) (get_st1 g2 (by decide) (fun q => absurd q.1 (by decide))) rfl ?_
        refine hw_goto (a0 := 0) (b := 0) (e := 9) (by decide +kernel) ?_
        exact H
    · have H := hf3 q
      refine hw_ld (b := 2) (e := 0) (by decide +kernel) g2 ?_
      refine hw_ld (b := 4) (e := 1) (by decide +kernel) g4 ?_
      refine hr_calls (b := 197) (e := 2) (nl := 2) (As := [(0, l2), (0, l4)]) (R := []) (by decide +kernel) rfl rfl (Nat.le_of_ble_eq_true rfl) (Nat.le_of_ble_eq_true rfl) ?_
      refine hw_mono H ?_
      rintro r ψ5 y5 ⟨hyx, hψx, z5, hr, H⟩
      subst hyx
      subst hψx
      subst hr
      refine ⟨hne0, ?_⟩
      show hw sc (d + 1) 244 62 L [(0, z5)] φ y5 Q
      obtain ⟨hz6, ht6, hf6⟩ := H
      refine hw_if (a0 := 0) (b := 0) (e := 80) (by decide +kernel) hz6 (fun q => ?_) (fun q => ?_)
      · have H := ht6 q
        refine hw_k (c := 1) (b := 0) (e := 1) (by decide +kernel) ?_
        refine hw_goto (a0 := 0) (b := 0) (e := 85) (by decide +kernel) ?_
        refine hw_st (L' := (jm_st1 L 3 (0, 1))) (b := 3) (e := 0) (by decide +kernel) rfl ?_
        refine hw_inc (L' := (jm_st1 (jm_st1 L 3 (0, 1)) 4 (0, l4 + 1))) (c := 1) (b := 4) (e := 0) (by decide +kernel) (get_st1 g4 (by decide) (fun q => absurd q.1 (by decide))) rfl ?_
        refine hw_goto (a0 := 0) (b := 0) (e := 41) (by decide +kernel) ?_
        exact H
      · have H := hf6 q
        refine hw_ald (b := 0) (e := 0) (by decide +kernel) g0 (by decide) ?_
        refine hr_gr (w := 194) (b := 12) (e := 6) 192 rfl (by decide +kernel) ?_
        refine hw_k (c := 91) (b := 1) (e := 2) (by decide +kernel) ?_
        refine hw_ld (b := 4) (e := 1) (by decide +kernel) g4 ?_
        refine hw_bin (w := 91 + l4) (a0 := 0) (b := 0) (e := 0) (by decide +kernel) rfl ?_
        obtain ⟨hl7, hu7, H⟩ := H
        refine hr_al (b := 0) (a0 := 0) (e := 0) (n := 361) (w := φ 194 ((91 + l4).toNat)) 194 rfl (by decide +kernel) (by decide) hl7 hu7 rfl ?_
        refine hw_ld (b := 2) (e := 0) (by decide +kernel) g2 ?_
        refine hw_bin (w := hb_and (φ 194 ((91 + l4).toNat)) l2) (a0 := 0) (b := 3) (e := 0) (by decide +kernel) rfl ?_
        obtain ⟨hz8, ht8, hf8⟩ := H
        refine hw_if (a0 := 0) (b := 1) (e := 84) (by decide +kernel) hz8 (fun q => ?_) (fun q => ?_)
        · have H := ht8 q
          refine hw_k (c := 0) (b := 0) (e := 1) (by decide +kernel) ?_
          refine hw_st (L' := (jm_st1 L 3 (0, 0))) (b := 3) (e := 0) (by decide +kernel) rfl ?_
          refine hw_inc (L' := (jm_st1 (jm_st1 L 3 (0, 0)) 4 (0, l4 + 1))) (c := 1) (b := 4) (e := 0) (by decide +kernel) (get_st1 g4 (by decide) (fun q => absurd q.1 (by decide))) rfl ?_
          refine hw_goto (a0 := 0) (b := 0) (e := 41) (by decide +kernel) ?_
          exact H
        · have H := hf8 q
          refine hw_k (c := 1) (b := 0) (e := 1) (by decide +kernel) ?_
          refine hw_goto (a0 := 0) (b := 0) (e := 85) (by decide +kernel) ?_
          refine hw_st (L' := (jm_st1 L 3 (0, 1))) (b := 3) (e := 0) (by decide +kernel) rfl ?_
          refine hw_inc (L' := (jm_st1 (jm_st1 L 3 (0, 1)) 4 (0, l4 + 1))) (c := 1) (b := 4) (e := 0) (by decide +kernel) (get_st1 g4 (by decide) (fun q => absurd q.1 (by decide))) rfl ?_
          refine hw_goto (a0 := 0) (b := 0) (e := 41) (by decide +kernel) ?_
          exact H
theorem sf_244_192_l41 {sc : List Int} {d x : Nat} {Q : Option jm_V → hf_F → Nat → Prop} {K : hf_F → Int → Int → Int × hf_F} : ∀ (n : Nat) (φ : hf_F) (L : jm_L) (l1 l2 l3 l4 : Int), jm_get L 0 = some (2, 192) → jm_get L 1 = some (0, l1) → jm_get L 2 = some (0, l2) → jm_get L 3 = some (0, l3) → jm_get L 4 = some (0, l4) → Inv φ → 8 - l4 < (n : Int) → 0 ≤ l1 → l1 ≤ 256 → 1 ≤ l2 → l2 ≤ 255 → 0 ≤ l3 → l3 ≤ 1 → 0 ≤ l4 → l4 ≤ 8 → ∀ (N : Nat), 256 - l2 ≤ (N : Int) → (∀ (φ2 : hf_F) (L2 : jm_L) (u1 u2 : Int), jm_get L2 0 = some (2, 192) → jm_get L2 1 = some (0, u1) → jm_get L2 2 = some (0, u2) → Inv φ2 → 256 - u2 < (N : Int) → 0 ≤ u1 → u1 ≤ 256 → 1 ≤ u2 → u2 ≤ 256 → Fr [193000, 193025, 193026] φ φ2 → F_RideLawsModel_stand_192_l41 K n φ l1 l2 l3 l4 = K φ2 u1 u2 → hw sc (d + 1) 244 9 L2 [] φ2 x Q) → (∀ (r : Int) (ψ : hf_F), Inv ψ → Fr [193000, 193025, 193026] φ ψ → True → F_RideLawsModel_stand_192_l41 K n φ l1 l2 l3 l4 = (r, ψ) → Q (some (0, r)) ψ x) → hw sc (d + 1) 244 41 L [] φ x Q := by
  intro n
  induction n with
  | zero =>
    intro φ L l1 l2 l3 l4 g0 g1 g2 g3 g4 hI hM b1a b1b b2a b2b b3a b3b b4a b4b N hN hO hQ
    exfalso
    omega
  | succ n ih =>
    intro φ L l1 l2 l3 l4 g0 g1 g2 g3 g4 hI hM b1a b1b b2a b2b b3a b3b b4a b4b N hN hO hQ
    refine sf_244_192_v41 g0 g1 g2 g3 g4 ?_
    have e0 := F_RideLawsModel_stand_192_l41_s (φ := φ) (l1 := l1) (l2 := l2) (l3 := l3) (l4 := l4) K n
    have f1 := iv_at (a := 194) (k := 4) (lo := 0) (u := 8) hI (by decide +kernel)
    refine ⟨by unfold hi; omega, by unfold hi; omega, fun q1 => ?_, fun q1 => ?_⟩
    · skip
      have e1a := e0.trans (if_pos q1)
      refine ⟨by unfold hi; omega, fun q2 => ?_, fun q2 => ?_⟩
      · skip
        have e2a := e1a.trans (if_pos q2)
        exact hO φ (jm_st1 L 2 (0, l2 + 1)) l1 (l2 + 1) (get_st1 g0 (by decide) (fun q => absurd q.1 (by decide))) (get_st1 g1 (by decide) (fun q => tg0 q.2)) get_st1e hI (by omega) (by omega) (by omega) (by omega) (by omega) (fr_rf) e2a
      · skip
        have e2b := e1a.trans (if_neg q2)
        exact hO φ (jm_st1 (jm_st1 L 1 (0, l2)) 2 (0, l2 + 1)) l2 (l2 + 1) (get_st1 (get_st1 g0 (by decide) (fun q => tg2 q.2)) (by decide) (fun q => absurd q.1 (by decide))) (get_st1 get_st1e (by decide) (fun q => tg0 q.2)) get_st1e hI (by omega) (by omega) (by omega) (by omega) (by omega) (fr_rf) e2b
    · skip
      have e1b := e0.trans (if_neg q1)
      refine ⟨by unfold hi; omega, fun q3 => ?_, fun q3 => ?_⟩
      · skip
        have e3a := e1b.trans (if_pos q3)
        refine ⟨by unfold hi; omega, fun q4 => ?_, fun q4 => ?_⟩
        · skip
          have e4a := e3a.trans (if_pos q4)
          exact hO φ (jm_st1 L 2 (0, l2 + 1)) l1 (l2 + 1) (get_st1 g0 (by decide) (fun q => absurd q.1 (by decide))) (get_st1 g1 (by decide) (fun q => tg0 q.2)) get_st1e hI (by omega) (by omega) (by omega) (by omega) (by omega) (fr_rf) e4a
        · skip
          have e4b := e3a.trans (if_neg q4)
          exact hO φ (jm_st1 (jm_st1 L 1 (0, l2)) 2 (0, l2 + 1)) l2 (l2 + 1) (get_st1 (get_st1 g0 (by decide) (fun q => tg2 q.2)) (by decide) (fun q => absurd q.1 (by decide))) (get_st1 get_st1e (by decide) (fun q => tg0 q.2)) get_st1e hI (by omega) (by omega) (by omega) (by omega) (by omega) (fr_rf) e4b
      · skip
        have e3b := e1b.trans (if_neg q3)
        refine sf_197 (φ := φ) hI  (fun z5 hp5 hE5 => ⟨rfl, rfl, z5, rfl, ?_⟩)
        have e5 := e3b.trans (bnp_e hE5)
        refine ⟨by unfold hi; omega, fun q6 => ?_, fun q6 => ?_⟩
        · skip
          have e6a := e5.trans (if_pos q6)
          exact ih φ (jm_st1 (jm_st1 L 3 (0, 1)) 4 (0, l4 + 1)) l1 l2 1 (l4 + 1) (get_st1 (get_st1 g0 (by decide) (fun q => absurd q.1 (by decide))) (by decide) (fun q => absurd q.1 (by decide))) (get_st1 (get_st1 g1 (by decide) (fun q => absurd q.1 (by decide))) (by decide) (fun q => absurd q.1 (by decide))) (get_st1 (get_st1 g2 (by decide) (fun q => tg0 q.2)) (by decide) (fun q => absurd q.1 (by decide))) (get_st1 get_st1e (by decide) (fun q => tg0 q.2)) get_st1e hI (by omega) (by omega) (by omega) (by omega) (by omega) (by omega) (by omega) (by omega) (by omega) N (by omega) (fun φ2 L2 u1 u2 w0 w1 w2 hI2 hM2 x0 x1 x2 x3 hF2 hE2 => hO φ2 L2 u1 u2 w0 w1 w2 hI2 hM2 x0 x1 x2 x3 (fr_tr (fr_rf) hF2 (by decide)) (e6a.trans hE2)) (fun rr χ hIχ hFχ hpχ hEχ => hQ rr χ hIχ (fr_tr (fr_rf) hFχ (by decide)) hpχ (e6a.trans hEχ))
        · skip
          have e6b := e5.trans (if_neg q6)
          refine ⟨by omega, by omega, ?_⟩
          have f2 := iv_ar (a := 194) (s := 91) (t := 99) (lo := (-2147483648 : Int)) (u := 2147483647) (z := 91 + l4) hI (by decide +kernel) (by omega) (by omega)
          have f3 := hr_and0 (φ 194 ((91 + l4).toNat)) l2
          have f4 := hr_and (φ 194 ((91 + l4).toNat)) l2
          refine ⟨by unfold hi; omega, fun q8 => ?_, fun q8 => ?_⟩
          · skip
            have e8a := e6b.trans (if_pos q8)
            exact ih φ (jm_st1 (jm_st1 L 3 (0, 0)) 4 (0, l4 + 1)) l1 l2 0 (l4 + 1) (get_st1 (get_st1 g0 (by decide) (fun q => absurd q.1 (by decide))) (by decide) (fun q => absurd q.1 (by decide))) (get_st1 (get_st1 g1 (by decide) (fun q => absurd q.1 (by decide))) (by decide) (fun q => absurd q.1 (by decide))) (get_st1 (get_st1 g2 (by decide) (fun q => tg0 q.2)) (by decide) (fun q => absurd q.1 (by decide))) (get_st1 get_st1e (by decide) (fun q => tg0 q.2)) get_st1e hI (by omega) (by omega) (by omega) (by omega) (by omega) (by omega) (by omega) (by omega) (by omega) N (by omega) (fun φ2 L2 u1 u2 w0 w1 w2 hI2 hM2 x0 x1 x2 x3 hF2 hE2 => hO φ2 L2 u1 u2 w0 w1 w2 hI2 hM2 x0 x1 x2 x3 (fr_tr (fr_rf) hF2 (by decide)) (e8a.trans hE2)) (fun rr χ hIχ hFχ hpχ hEχ => hQ rr χ hIχ (fr_tr (fr_rf) hFχ (by decide)) hpχ (e8a.trans hEχ))
          · skip
            have e8b := e6b.trans (if_neg q8)
            exact ih φ (jm_st1 (jm_st1 L 3 (0, 1)) 4 (0, l4 + 1)) l1 l2 1 (l4 + 1) (get_st1 (get_st1 g0 (by decide) (fun q => absurd q.1 (by decide))) (by decide) (fun q => absurd q.1 (by decide))) (get_st1 (get_st1 g1 (by decide) (fun q => absurd q.1 (by decide))) (by decide) (fun q => absurd q.1 (by decide))) (get_st1 (get_st1 g2 (by decide) (fun q => tg0 q.2)) (by decide) (fun q => absurd q.1 (by decide))) (get_st1 get_st1e (by decide) (fun q => tg0 q.2)) get_st1e hI (by omega) (by omega) (by omega) (by omega) (by omega) (by omega) (by omega) (by omega) (by omega) N (by omega) (fun φ2 L2 u1 u2 w0 w1 w2 hI2 hM2 x0 x1 x2 x3 hF2 hE2 => hO φ2 L2 u1 u2 w0 w1 w2 hI2 hM2 x0 x1 x2 x3 (fr_tr (fr_rf) hF2 (by decide)) (e8b.trans hE2)) (fun rr χ hIχ hFχ hpχ hEχ => hQ rr χ hIχ (fr_tr (fr_rf) hFχ (by decide)) hpχ (e8b.trans hEχ))
theorem sf_244_192_v9 {sc : List Int} {d : Nat} {φ : hf_F} {x : Nat} {Q : Option jm_V → hf_F → Nat → Prop} {L : jm_L} {l1 l2 : Int} (g0 : jm_get L 0 = some (2, 192)) (g1 : jm_get L 1 = some (0, l1)) (g2 : jm_get L 2 = some (0, l2))
    (H : hi l2 ∧ hi (hb_shl 1 (φ 194 4)) ∧ ((hb_shl 1 (φ 194 4)) ≤ l2 → hw sc d 245 0 [(0, (0, l1))] [] (hf_up (hf_up φ 192 26 1) 192 25 l1) x (fun r ψ2 y2 => y2 = x ∧ (hf_up (hf_up φ 192 26 1) 192 25 l1) = ψ2 ∧ (∃ z2 : Int, r = some (0, z2) ∧ (Q (some (0, z2)) (hf_up (hf_up φ 192 26 1) 192 25 l1) x)))) ∧ (¬ (hb_shl 1 (φ 194 4)) ≤ l2 → hw sc d 245 0 [(0, (0, l2))] [] φ x (fun r ψ4 y4 => y4 = x ∧ φ = ψ4 ∧ (∃ z4 : Int, r = some (0, z4) ∧ (hw sc d 245 0 [(0, (0, l1))] [] φ x (fun r ψ5 y5 => y5 = x ∧ φ = ψ5 ∧ (∃ z5 : Int, r = some (0, z5) ∧ (((jm_n z4) ≤ (jm_n z5) → hw sc (d + 1) 244 41 (jm_st1 (jm_st1 L 3 (0, 0)) 4 (0, 0)) [] φ x Q) ∧ (¬ (jm_n z4) ≤ (jm_n z5) → hw sc (d + 1) 244 41 (jm_st1 (jm_st1 L 3 (0, 1)) 4 (0, 0)) [] φ x Q))))))))) :
    hw sc (d + 1) 244 9 L [] φ x Q := by
  refine hw_ld (b := 2) (e := 0) (by decide +kernel) g2 ?_
  refine hw_k (c := 1) (b := 0) (e := 1) (by decide +kernel) ?_
  refine hw_ald (b := 0) (e := 0) (by decide +kernel) g0 (by decide) ?_
  refine hr_gr (w := 194) (b := 12) (e := 6) 192 rfl (by decide +kernel) ?_
  refine hw_k (c := 4) (b := 0) (e := 1) (by decide +kernel) ?_
  refine hr_al (b := 0) (a0 := 0) (e := 0) (n := 361) (w := φ 194 4) 194 rfl (by decide +kernel) (by decide) (by decide) (by decide) rfl ?_
  refine hw_bin (w := hb_shl 1 (φ 194 4)) (a0 := 0) (b := 6) (e := 0) (by decide +kernel) rfl ?_
  obtain ⟨hz1, hy1, ht1, hf1⟩ := H
  refine hw_if2 (a0 := 0) (b := 3) (e := 104) (by decide +kernel) hz1 hy1 (fun q => ?_) (fun q => ?_)
  · have H := ht1 q
    refine hw_ald (b := 0) (e := 0) (by decide +kernel) g0 (by decide) ?_
    refine hw_k (c := 1) (b := 0) (e := 1) (by decide +kernel) ?_
    refine hr_pz (b := 12) (e := 26) 192 rfl (by decide +kernel) (by decide) ?_
    refine hw_ald (b := 0) (e := 0) (by decide +kernel) g0 (by decide) ?_
    refine hw_ld (b := 1) (e := 0) (by decide +kernel) g1 ?_
    refine hr_pi (b := 12) (e := 25) 192 rfl (by decide +kernel) ?_
    refine hw_ld (b := 1) (e := 0) (by decide +kernel) g1 ?_
    refine hr_calls (b := 245) (e := 1) (nl := 3) (As := [(0, l1)]) (R := []) (by decide +kernel) rfl rfl (Nat.le_of_ble_eq_true rfl) (Nat.le_of_ble_eq_true rfl) ?_
    refine hw_mono H ?_
    rintro r ψ2 y2 ⟨hyx, hψx, z2, hr, H⟩
    subst hyx
    subst hψx
    subst hr
    refine ⟨hne0, ?_⟩
    show hw sc (d + 1) 244 118 L [(0, z2)] (hf_up (hf_up φ 192 26 1) 192 25 l1) y2 Q
    exact hw_ret (a0 := 0) (e := 0) (by decide +kernel) (Or.inl rfl) H
  · have H := hf1 q
    refine hw_ld (b := 2) (e := 0) (by decide +kernel) g2 ?_
    refine hr_calls (b := 245) (e := 1) (nl := 3) (As := [(0, l2)]) (R := []) (by decide +kernel) rfl rfl (Nat.le_of_ble_eq_true rfl) (Nat.le_of_ble_eq_true rfl) ?_
    refine hw_mono H ?_
    rintro r ψ4 y4 ⟨hyx, hψx, z4, hr, H⟩
    subst hyx
    subst hψx
    subst hr
    refine ⟨hne0, ?_⟩
    show hw sc (d + 1) 244 25 L [(0, z4)] φ y4 Q
    refine hw_ld (b := 1) (e := 0) (by decide +kernel) g1 ?_
    refine hr_calls (b := 245) (e := 1) (nl := 3) (As := [(0, l1)]) (R := [(0, z4)]) (by decide +kernel) rfl rfl (Nat.le_of_ble_eq_true rfl) (Nat.le_of_ble_eq_true rfl) ?_
    refine hw_mono H ?_
    rintro r ψ5 y5 ⟨hyx, hψx, z5, hr, H⟩
    subst hyx
    subst hψx
    subst hr
    refine ⟨hne0, ?_⟩
    show hw sc (d + 1) 244 29 L [(0, z5), (0, z4)] φ y5 Q
    obtain ⟨ht6, hf6⟩ := H
    refine hw_if2n (a0 := 0) (b := 5) (e := 36) (by decide +kernel) (fun q => ?_) (fun q => ?_)
    · have H := ht6 q
      refine hw_k (c := 0) (b := 0) (e := 1) (by decide +kernel) ?_
      refine hw_st (L' := (jm_st1 L 3 (0, 0))) (b := 3) (e := 0) (by decide +kernel) rfl ?_
      refine hw_k (c := 0) (b := 0) (e := 1) (by decide +kernel) ?_
      refine hw_st (L' := (jm_st1 (jm_st1 L 3 (0, 0)) 4 (0, 0))) (b := 4) (e := 1) (by decide +kernel) rfl ?_
      exact H
    · have H := hf6 q
      refine hw_k (c := 1) (b := 0) (e := 1) (by decide +kernel) ?_
      refine hw_goto (a0 := 0) (b := 0) (e := 37) (by decide +kernel) ?_
      refine hw_st (L' := (jm_st1 L 3 (0, 1))) (b := 3) (e := 0) (by decide +kernel) rfl ?_
      refine hw_k (c := 0) (b := 0) (e := 1) (by decide +kernel) ?_
      refine hw_st (L' := (jm_st1 (jm_st1 L 3 (0, 1)) 4 (0, 0))) (b := 4) (e := 1) (by decide +kernel) rfl ?_
      exact H
theorem sf_244_192_l9 {sc : List Int} {d x : Nat} {Q : Option jm_V → hf_F → Nat → Prop} : ∀ (n : Nat) (φ : hf_F) (L : jm_L) (l1 l2 : Int), jm_get L 0 = some (2, 192) → jm_get L 1 = some (0, l1) → jm_get L 2 = some (0, l2) → Inv φ → 256 - l2 < (n : Int) → 0 ≤ l1 → l1 ≤ 256 → 1 ≤ l2 → l2 ≤ 256 → (∀ (r : Int) (ψ : hf_F), Inv ψ → Fr [193000, 193025, 193026] φ ψ → True → F_RideLawsModel_stand_192_l9 n φ l1 l2 = (r, ψ) → Q (some (0, r)) ψ x) → hw sc (d + 1) 244 9 L [] φ x Q := by
  intro n
  induction n with
  | zero =>
    intro φ L l1 l2 g0 g1 g2 hI hM b1a b1b b2a b2b hQ
    exfalso
    omega
  | succ n ih =>
    intro φ L l1 l2 g0 g1 g2 hI hM b1a b1b b2a b2b hQ
    refine sf_244_192_v9 g0 g1 g2 ?_
    have e0 := F_RideLawsModel_stand_192_l9_s (φ := φ) (l1 := l1) (l2 := l2) n
    have f1 := iv_at (a := 194) (k := 4) (lo := 0) (u := 8) hI (by decide +kernel)
    have f2 := hr_shl1 (φ 194 4)
    have f3 := hr_shl 1 (φ 194 4)
    refine ⟨by unfold hi; omega, by unfold hi; omega, fun q1 => ?_, fun q1 => ?_⟩
    · skip
      have e1a := e0.trans (if_pos q1)
      have i4 : Inv (hf_up φ 192 26 1) := iv_up (lo := 0) (u := 1) hI (by decide +kernel) (by omega) (by omega)
      have r4 : Fr [193000, 193025, 193026] φ (hf_up φ 192 26 1) := fr_up (fr_rf) (by decide)
      have i5 : Inv (hf_up (hf_up φ 192 26 1) 192 25 l1) := iv_up (lo := (-2147483648 : Int)) (u := 2147483647) i4 (by decide +kernel) (by omega) (by omega)
      have r5 : Fr [193000, 193025, 193026] φ (hf_up (hf_up φ 192 26 1) 192 25 l1) := fr_up r4 (by decide)
      refine sf_245 (φ := (hf_up (hf_up φ 192 26 1) 192 25 l1)) i5 (by omega) (by omega) (fun z2 hp2 hE2 => ⟨rfl, rfl, z2, rfl, ?_⟩)
      have e2 := e1a.trans (bnp_e hE2)
      exact hQ z2 (hf_up (hf_up φ 192 26 1) 192 25 l1) i5 r5 trivial e2
    · skip
      have e1b := e0.trans (if_neg q1)
      refine sf_245 (φ := φ) hI (by omega) (by omega) (fun z4 hp4 hE4 => ⟨rfl, rfl, z4, rfl, ?_⟩)
      have e4 := e1b.trans (bnp_e hE4)
      refine sf_245 (φ := φ) hI (by omega) (by omega) (fun z5 hp5 hE5 => ⟨rfl, rfl, z5, rfl, ?_⟩)
      have e5 := e4.trans (bnp_e hE5)
      have f6 := hr_n z4
      have f7 := hr_n z5
      refine ⟨fun q6 => ?_, fun q6 => ?_⟩
      · skip
        have e6a := e5.trans (if_pos q6)
        exact sf_244_192_l41 (K := F_RideLawsModel_stand_192_l9 n) ((8 - 0 : Int).toNat + 1) φ (jm_st1 (jm_st1 L 3 (0, 0)) 4 (0, 0)) l1 l2 0 0 (get_st1 (get_st1 g0 (by decide) (fun q => absurd q.1 (by decide))) (by decide) (fun q => absurd q.1 (by decide))) (get_st1 (get_st1 g1 (by decide) (fun q => absurd q.1 (by decide))) (by decide) (fun q => absurd q.1 (by decide))) (get_st1 (get_st1 g2 (by decide) (fun q => tg0 q.2)) (by decide) (fun q => absurd q.1 (by decide))) (get_st1 get_st1e (by decide) (fun q => tg0 q.2)) get_st1e hI (by omega) (by omega) (by omega) (by omega) (by omega) (by omega) (by omega) (by omega) (by omega) n (by omega) (fun φ2 L2 u1 u2 w0 w1 w2 hI2 hM2 x0 x1 x2 x3 hF2 hE2 => ih φ2 L2 u1 u2 w0 w1 w2 hI2 hM2 x0 x1 x2 x3 (fun rr χ hIχ hFχ hpχ hEχ => hQ rr χ hIχ (fr_tr (fr_tr (fr_rf) hF2 (by decide)) hFχ (by decide)) hpχ ((e6a.trans hE2).trans hEχ))) (fun rr χ hIχ hFχ hpχ hEχ => hQ rr χ hIχ (fr_tr (fr_rf) hFχ (by decide)) hpχ (e6a.trans hEχ))
      · skip
        have e6b := e5.trans (if_neg q6)
        exact sf_244_192_l41 (K := F_RideLawsModel_stand_192_l9 n) ((8 - 0 : Int).toNat + 1) φ (jm_st1 (jm_st1 L 3 (0, 1)) 4 (0, 0)) l1 l2 1 0 (get_st1 (get_st1 g0 (by decide) (fun q => absurd q.1 (by decide))) (by decide) (fun q => absurd q.1 (by decide))) (get_st1 (get_st1 g1 (by decide) (fun q => absurd q.1 (by decide))) (by decide) (fun q => absurd q.1 (by decide))) (get_st1 (get_st1 g2 (by decide) (fun q => tg0 q.2)) (by decide) (fun q => absurd q.1 (by decide))) (get_st1 get_st1e (by decide) (fun q => tg0 q.2)) get_st1e hI (by omega) (by omega) (by omega) (by omega) (by omega) (by omega) (by omega) (by omega) (by omega) n (by omega) (fun φ2 L2 u1 u2 w0 w1 w2 hI2 hM2 x0 x1 x2 x3 hF2 hE2 => ih φ2 L2 u1 u2 w0 w1 w2 hI2 hM2 x0 x1 x2 x3 (fun rr χ hIχ hFχ hpχ hEχ => hQ rr χ hIχ (fr_tr (fr_tr (fr_rf) hF2 (by decide)) hFχ (by decide)) hpχ ((e6b.trans hE2).trans hEχ))) (fun rr χ hIχ hFχ hpχ hEχ => hQ rr χ hIχ (fr_tr (fr_rf) hFχ (by decide)) hpχ (e6b.trans hEχ))
theorem sf_244_192_v {sc : List Int} {d : Nat} {φ : hf_F} {x : Nat} {Q : Option jm_V → hf_F → Nat → Prop} 
    (H : hw sc (d + 1) 244 9 (jm_st1 (jm_st1 [(0, (2, 192))] 1 (0, 0)) 2 (0, 1)) [] (hf_up φ 192 0 0) x Q) :
    hw sc (d + 1) 244 0 [(0, (2, 192))] [] φ x Q := by
  refine hw_ald (b := 0) (e := 0) (by decide +kernel) rfl (by decide) ?_
  refine hw_k (c := 0) (b := 0) (e := 1) (by decide +kernel) ?_
  refine hr_pi (b := 12) (e := 0) 192 rfl (by decide +kernel) ?_
  refine hw_k (c := 0) (b := 0) (e := 1) (by decide +kernel) ?_
  refine hw_st (L' := (jm_st1 [(0, (2, 192))] 1 (0, 0))) (b := 1) (e := 0) (by decide +kernel) rfl ?_
  refine hw_k (c := 1) (b := 0) (e := 1) (by decide +kernel) ?_
  refine hw_st (L' := (jm_st1 (jm_st1 [(0, (2, 192))] 1 (0, 0)) 2 (0, 1))) (b := 2) (e := 0) (by decide +kernel) rfl ?_
  exact H
theorem sf_244_192 {sc : List Int} {d : Nat} {φ : hf_F} {x : Nat} {Q : Option jm_V → hf_F → Nat → Prop}  (hI : Inv φ)  (hQ : ∀ (r : Int) (ψ : hf_F), Inv ψ → Fr [193000, 193025, 193026] φ ψ → True → F_RideLawsModel_stand_192 φ = (r, ψ) → Q (some (0, r)) ψ x) : hw sc (d + 1) 244 0 [(0, (2, 192))] [] φ x Q := by
  apply sf_244_192_v
  have e0 : F_RideLawsModel_stand_192 φ = _ := rfl
  have i1 : Inv (hf_up φ 192 0 0) := iv_up (lo := 0) (u := 1) hI (by decide +kernel) (by omega) (by omega)
  have r1 : Fr [193000, 193025, 193026] φ (hf_up φ 192 0 0) := fr_up (fr_rf) (by decide)
  exact sf_244_192_l9 ((256 - 1 : Int).toNat + 1) (hf_up φ 192 0 0) (jm_st1 (jm_st1 [(0, (2, 192))] 1 (0, 0)) 2 (0, 1)) 0 1 (get_st1 (get_st1 rfl (by decide) (fun q => tg2 q.2)) (by decide) (fun q => absurd q.1 (by decide))) (get_st1 get_st1e (by decide) (fun q => tg0 q.2)) get_st1e i1 (by omega) (by omega) (by omega) (by omega) (by omega) (fun rr χ hIχ hFχ hpχ hEχ => hQ rr χ hIχ (fr_tr r1 hFχ (by decide)) hpχ (e0.trans hEχ))
theorem sf_238_192_v93 {sc : List Int} {d : Nat} {φ : hf_F} {x : Nat} {Q : Option jm_V → hf_F → Nat → Prop} {L : jm_L} {l1 l2 l3 l4 : Int} (g0 : jm_get L 0 = some (2, 192)) (g1 : jm_get L 1 = some (0, l1)) (g2 : jm_get L 2 = some (0, l2)) (g3 : jm_get L 3 = some (0, l3)) (g4 : jm_get L 4 = some (0, l4))
    (H : hi l4 ∧ hi (φ 194 3) ∧ ((φ 194 3) ≤ l4 → hi l1 ∧ (¬ l1 = 0 → hw sc (d + 3) 238 75 (jm_st1 L 3 (0, l3 + 1)) [] φ x Q) ∧ (¬ (¬ l1 = 0) → hw sc (d + 3) 238 75 (jm_st1 (jm_st1 L 2 (0, l3)) 3 (0, l3 + 1)) [] φ x Q)) ∧ (¬ (φ 194 3) ≤ l4 → 0 ≤ (166 + l4) ∧ (166 + l4) < 361 ∧ (0 ≤ (67 + l4) ∧ (67 + l4) < 81 ∧ (((jm_n (φ 194 ((166 + l4).toNat))) ≤ (jm_n (φ 200 ((67 + l4).toNat))) → hw sc (d + 3) 238 93 (jm_st1 L 4 (0, l4 + 1)) [] φ x Q) ∧ (¬ (jm_n (φ 194 ((166 + l4).toNat))) ≤ (jm_n (φ 200 ((67 + l4).toNat))) → hw sc (d + 3) 238 93 (jm_st1 (jm_st1 L 1 (0, hb_and l1 (hb_xor (hb_shl 1 l4) (-1 : Int)))) 4 (0, l4 + 1)) [] φ x Q))))) :
    hw sc (d + 3) 238 93 L [] φ x Q := by
  refine hw_ld (b := 4) (e := 1) (by decide +kernel) g4 ?_
  refine hw_ald (b := 0) (e := 0) (by decide +kernel) g0 (by decide) ?_
  refine hr_gr (w := 194) (b := 12) (e := 6) 192 rfl (by decide +kernel) ?_
  refine hw_k (c := 3) (b := 0) (e := 1) (by decide +kernel) ?_
  refine hr_al (b := 0) (a0 := 0) (e := 0) (n := 361) (w := φ 194 3) 194 rfl (by decide +kernel) (by decide) (by decide) (by decide) rfl ?_
  obtain ⟨hz1, hy1, ht1, hf1⟩ := H
  refine hw_if2 (a0 := 0) (b := 3) (e := 143) (by decide +kernel) hz1 hy1 (fun q => ?_) (fun q => ?_)
  · have H := ht1 q
    refine hw_ld (b := 1) (e := 0) (by decide +kernel) g1 ?_
    obtain ⟨hz2, ht2, hf2⟩ := H
    refine hw_if (a0 := 0) (b := 1) (e := 149) (by decide +kernel) hz2 (fun q => ?_) (fun q => ?_)
    · have H := ht2 q
      refine hw_inc (L' := (jm_st1 L 3 (0, l3 + 1))) (c := 1) (b := 3) (e := 0) (by decide +kernel) g3 rfl ?_
      refine hw_goto (a0 := 0) (b := 0) (e := 75) (by decide +kernel) ?_
      exact H
    · have H := hf2 q
      refine hw_ld (b := 3) (e := 0) (by decide +kernel) g3 ?_
      refine hw_st (L' := (jm_st1 L 2 (0, l3))) (b := 2) (e := 0) (by decide +kernel) rfl ?_
      refine hw_inc (L' := (jm_st1 (jm_st1 L 2 (0, l3)) 3 (0, l3 + 1))) (c := 1) (b := 3) (e := 0) (by decide +kernel) (get_st1 g3 (by decide) (fun q => absurd q.1 (by decide))) rfl ?_
      refine hw_goto (a0 := 0) (b := 0) (e := 75) (by decide +kernel) ?_
      exact H
  · have H := hf1 q
    refine hw_ald (b := 0) (e := 0) (by decide +kernel) g0 (by decide) ?_
    refine hr_gr (w := 194) (b := 12) (e := 6) 192 rfl (by decide +kernel) ?_
    refine hw_k (c := 166) (b := 2) (e := 3) (by decide +kernel) ?_
    refine hw_ld (b := 4) (e := 1) (by decide +kernel) g4 ?_
    refine hw_bin (w := 166 + l4) (a0 := 0) (b := 0) (e := 0) (by decide +kernel) rfl ?_
    obtain ⟨hl3, hu3, H⟩ := H
    refine hr_al (b := 0) (a0 := 0) (e := 0) (n := 361) (w := φ 194 ((166 + l4).toNat)) 194 rfl (by decide +kernel) (by decide) hl3 hu3 rfl ?_
    refine hw_ald (b := 0) (e := 0) (by decide +kernel) g0 (by decide) ?_
    refine hr_gr (w := 200) (b := 12) (e := 21) 192 rfl (by decide +kernel) ?_
    refine hw_k (c := 67) (b := 1) (e := 2) (by decide +kernel) ?_
    refine hw_ld (b := 4) (e := 1) (by decide +kernel) g4 ?_
    refine hw_bin (w := 67 + l4) (a0 := 0) (b := 0) (e := 0) (by decide +kernel) rfl ?_
    obtain ⟨hl4, hu4, H⟩ := H
    refine hr_al (b := 0) (a0 := 0) (e := 0) (n := 81) (w := φ 200 ((67 + l4).toNat)) 200 rfl (by decide +kernel) (by decide) hl4 hu4 rfl ?_
    obtain ⟨ht5, hf5⟩ := H
    refine hw_if2n (a0 := 0) (b := 5) (e := 137) (by decide +kernel) (fun q => ?_) (fun q => ?_)
    · have H := ht5 q
      refine hw_inc (L' := (jm_st1 L 4 (0, l4 + 1))) (c := 1) (b := 4) (e := 0) (by decide +kernel) g4 rfl ?_
      refine hw_goto (a0 := 0) (b := 0) (e := 93) (by decide +kernel) ?_
      exact H
    · have H := hf5 q
      refine hw_ld (b := 1) (e := 0) (by decide +kernel) g1 ?_
      refine hw_k (c := 1) (b := 0) (e := 1) (by decide +kernel) ?_
      refine hw_ld (b := 4) (e := 1) (by decide +kernel) g4 ?_
      refine hw_bin (w := hb_shl 1 l4) (a0 := 0) (b := 6) (e := 0) (by decide +kernel) rfl ?_
      refine hw_k (c := (-1 : Int)) (b := 0) (e := 1) (by decide +kernel) ?_
      refine hw_bin (w := hb_xor (hb_shl 1 l4) (-1 : Int)) (a0 := 0) (b := 5) (e := 0) (by decide +kernel) rfl ?_
      refine hw_bin (w := hb_and l1 (hb_xor (hb_shl 1 l4) (-1 : Int))) (a0 := 0) (b := 3) (e := 0) (by decide +kernel) rfl ?_
      refine hw_st (L' := (jm_st1 L 1 (0, hb_and l1 (hb_xor (hb_shl 1 l4) (-1 : Int))))) (b := 1) (e := 0) (by decide +kernel) rfl ?_
      refine hw_inc (L' := (jm_st1 (jm_st1 L 1 (0, hb_and l1 (hb_xor (hb_shl 1 l4) (-1 : Int)))) 4 (0, l4 + 1))) (c := 1) (b := 4) (e := 0) (by decide +kernel) (get_st1 g4 (by decide) (fun q => absurd q.1 (by decide))) rfl ?_
      refine hw_goto (a0 := 0) (b := 0) (e := 93) (by decide +kernel) ?_
      exact H
theorem sf_238_192_l93 {sc : List Int} {d x : Nat} {Q : Option jm_V → hf_F → Nat → Prop} {K : hf_F → Int → Int → Int → Int × hf_F} : ∀ (n : Nat) (φ : hf_F) (L : jm_L) (l1 l2 l3 l4 : Int), jm_get L 0 = some (2, 192) → jm_get L 1 = some (0, l1) → jm_get L 2 = some (0, l2) → jm_get L 3 = some (0, l3) → jm_get L 4 = some (0, l4) → Inv φ → 6 - l4 < (n : Int) → (-2147483648 : Int) ≤ l1 → l1 ≤ 2147483647 → (-1 : Int) ≤ l2 → l2 ≤ (-1 : Int) → 1 ≤ l3 → l3 ≤ 300 → 0 ≤ l4 → l4 ≤ 6 → ∀ (N : Nat), 301 - l3 ≤ (N : Int) → (∀ (φ2 : hf_F) (L2 : jm_L) (u1 u2 u3 : Int), jm_get L2 0 = some (2, 192) → jm_get L2 1 = some (0, u1) → jm_get L2 2 = some (0, u2) → jm_get L2 3 = some (0, u3) → Inv φ2 → 301 - u3 < (N : Int) → (-2147483648 : Int) ≤ u1 → u1 ≤ 2147483647 → (-1 : Int) ≤ u2 → u2 ≤ 300 → 1 ≤ u3 → u3 ≤ 301 → Fr [194, 200, 193000] φ φ2 → F_RideLawsModel_all_192_l93 K n φ l1 l2 l3 l4 = K φ2 u1 u2 u3 → hw sc (d + 3) 238 75 L2 [] φ2 x Q) → (∀ (r : Int) (ψ : hf_F), Inv ψ → Fr [194, 200, 193000] φ ψ → True → F_RideLawsModel_all_192_l93 K n φ l1 l2 l3 l4 = (r, ψ) → Q (some (0, r)) ψ x) → hw sc (d + 3) 238 93 L [] φ x Q := by
  intro n
  induction n with
  | zero =>
    intro φ L l1 l2 l3 l4 g0 g1 g2 g3 g4 hI hM b1a b1b b2a b2b b3a b3b b4a b4b N hN hO hQ
    exfalso
    omega
  | succ n ih =>
    intro φ L l1 l2 l3 l4 g0 g1 g2 g3 g4 hI hM b1a b1b b2a b2b b3a b3b b4a b4b N hN hO hQ
    refine sf_238_192_v93 g0 g1 g2 g3 g4 ?_
    have e0 := F_RideLawsModel_all_192_l93_s (φ := φ) (l1 := l1) (l2 := l2) (l3 := l3) (l4 := l4) K n
    have f1 := iv_at (a := 194) (k := 3) (lo := 0) (u := 6) hI (by decide +kernel)
    refine ⟨by unfold hi; omega, by unfold hi; omega, fun q1 => ?_, fun q1 => ?_⟩
    · skip
      have e1a := e0.trans (if_pos q1)
      refine ⟨by unfold hi; omega, fun q2 => ?_, fun q2 => ?_⟩
      · skip
        have e2a := e1a.trans (if_pos q2)
        exact hO φ (jm_st1 L 3 (0, l3 + 1)) l1 l2 (l3 + 1) (get_st1 g0 (by decide) (fun q => absurd q.1 (by decide))) (get_st1 g1 (by decide) (fun q => absurd q.1 (by decide))) (get_st1 g2 (by decide) (fun q => tg0 q.2)) get_st1e hI (by omega) (by omega) (by omega) (by omega) (by omega) (by omega) (by omega) (fr_rf) e2a
      · skip
        have e2b := e1a.trans (if_neg q2)
        exact hO φ (jm_st1 (jm_st1 L 2 (0, l3)) 3 (0, l3 + 1)) l1 l3 (l3 + 1) (get_st1 (get_st1 g0 (by decide) (fun q => absurd q.1 (by decide))) (by decide) (fun q => absurd q.1 (by decide))) (get_st1 (get_st1 g1 (by decide) (fun q => tg0 q.2)) (by decide) (fun q => absurd q.1 (by decide))) (get_st1 get_st1e (by decide) (fun q => tg0 q.2)) get_st1e hI (by omega) (by omega) (by omega) (by omega) (by omega) (by omega) (by omega) (fr_rf) e2b
    · skip
      have e1b := e0.trans (if_neg q1)
      refine ⟨by omega, by omega, ?_⟩
      refine ⟨by omega, by omega, ?_⟩
      have f2 := hr_n (φ 194 ((166 + l4).toNat))
      have f3 := hr_n (φ 200 ((67 + l4).toNat))
      refine ⟨fun q5 => ?_, fun q5 => ?_⟩
      · skip
        have e5a := e1b.trans (if_pos q5)
        exact ih φ (jm_st1 L 4 (0, l4 + 1)) l1 l2 l3 (l4 + 1) (get_st1 g0 (by decide) (fun q => absurd q.1 (by decide))) (get_st1 g1 (by decide) (fun q => absurd q.1 (by decide))) (get_st1 g2 (by decide) (fun q => absurd q.1 (by decide))) (get_st1 g3 (by decide) (fun q => tg0 q.2)) get_st1e hI (by omega) (by omega) (by omega) (by omega) (by omega) (by omega) (by omega) (by omega) (by omega) N (by omega) (fun φ2 L2 u1 u2 u3 w0 w1 w2 w3 hI2 hM2 x0 x1 x2 x3 x4 x5 hF2 hE2 => hO φ2 L2 u1 u2 u3 w0 w1 w2 w3 hI2 hM2 x0 x1 x2 x3 x4 x5 (fr_tr (fr_rf) hF2 (by decide)) (e5a.trans hE2)) (fun rr χ hIχ hFχ hpχ hEχ => hQ rr χ hIχ (fr_tr (fr_rf) hFχ (by decide)) hpχ (e5a.trans hEχ))
      · skip
        have e5b := e1b.trans (if_neg q5)
        have f4 := hr_shl1 l4
        have f5 := hr_shl 1 l4
        have f6 := hr_xor (hb_shl 1 l4) (-1 : Int)
        have f7 := hr_and0 l1 (hb_xor (hb_shl 1 l4) (-1 : Int))
        have f8 := hr_and l1 (hb_xor (hb_shl 1 l4) (-1 : Int))
        exact ih φ (jm_st1 (jm_st1 L 1 (0, hb_and l1 (hb_xor (hb_shl 1 l4) (-1 : Int)))) 4 (0, l4 + 1)) (hb_and l1 (hb_xor (hb_shl 1 l4) (-1 : Int))) l2 l3 (l4 + 1) (get_st1 (get_st1 g0 (by decide) (fun q => tg2 q.2)) (by decide) (fun q => absurd q.1 (by decide))) (get_st1 get_st1e (by decide) (fun q => absurd q.1 (by decide))) (get_st1 (get_st1 g2 (by decide) (fun q => absurd q.1 (by decide))) (by decide) (fun q => absurd q.1 (by decide))) (get_st1 (get_st1 g3 (by decide) (fun q => absurd q.1 (by decide))) (by decide) (fun q => tg0 q.2)) get_st1e hI (by omega) (by omega) (by omega) (by omega) (by omega) (by omega) (by omega) (by omega) (by omega) N (by omega) (fun φ2 L2 u1 u2 u3 w0 w1 w2 w3 hI2 hM2 x0 x1 x2 x3 x4 x5 hF2 hE2 => hO φ2 L2 u1 u2 u3 w0 w1 w2 w3 hI2 hM2 x0 x1 x2 x3 x4 x5 (fr_tr (fr_rf) hF2 (by decide)) (e5b.trans hE2)) (fun rr χ hIχ hFχ hpχ hEχ => hQ rr χ hIχ (fr_tr (fr_rf) hFχ (by decide)) hpχ (e5b.trans hEχ))
theorem sf_238_192_v75 {sc : List Int} {d : Nat} {φ : hf_F} {x : Nat} {Q : Option jm_V → hf_F → Nat → Prop} {L : jm_L} {l1 l2 l3 : Int} (g0 : jm_get L 0 = some (2, 192)) (g1 : jm_get L 1 = some (0, l1)) (g2 : jm_get L 2 = some (0, l2)) (g3 : jm_get L 3 = some (0, l3))
    (H : hi l3 ∧ hi 300 ∧ (300 < l3 → hw sc (d + 2) 235 0 [(0, (2, 192))] [] φ x (fun r ψ2 y2 => y2 = x ∧ (r = none ∧ (Q (some (0, l2)) ψ2 x)))) ∧ (¬ 300 < l3 → hi l2 ∧ (0 ≤ l2 → hw sc (d + 2) 235 0 [(0, (2, 192))] [] φ x (fun r ψ5 y5 => y5 = x ∧ (r = none ∧ (Q (some (0, l2)) ψ5 x)))) ∧ (¬ 0 ≤ l2 → hw sc (d + 2) 226 0 [(0, (2, 192))] [] φ x (fun r ψ7 y7 => y7 = x ∧ (r = none ∧ (hw sc (d + 3) 238 93 (jm_st1 L 4 (0, 0)) [] ψ7 x Q)))))) :
    hw sc (d + 3) 238 75 L [] φ x Q := by
  refine hw_ld (b := 3) (e := 0) (by decide +kernel) g3 ?_
  refine hw_k (c := 300) (b := 2) (e := 3) (by decide +kernel) ?_
  obtain ⟨hz1, hy1, ht1, hf1⟩ := H
  refine hw_if2 (a0 := 0) (b := 4) (e := 155) (by decide +kernel) hz1 hy1 (fun q => ?_) (fun q => ?_)
  · have H := ht1 q
    refine hw_ald (b := 0) (e := 0) (by decide +kernel) g0 (by decide) ?_
    refine hr_call (a0 := 22) (b := 235) (e := 1) (nl := 2) (As := []) (R := []) 192 rfl (by decide +kernel) rfl rfl (Nat.le_of_ble_eq_true rfl) (Nat.le_of_ble_eq_true rfl) ?_
    refine hw_mono H ?_
    rintro r ψ2 y2 ⟨hyx, hr, H⟩
    subst hyx
    subst hr
    refine ⟨hnen, ?_⟩
    show hw sc (d + 3) 238 159 L [] ψ2 y2 Q
    refine hw_ld (b := 2) (e := 0) (by decide +kernel) g2 ?_
    exact hw_ret (a0 := 0) (e := 0) (by decide +kernel) (Or.inl rfl) H
  · have H := hf1 q
    refine hw_ld (b := 2) (e := 0) (by decide +kernel) g2 ?_
    obtain ⟨hz4, ht4, hf4⟩ := H
    refine hw_if (a0 := 0) (b := 3) (e := 155) (by decide +kernel) hz4 (fun q => ?_) (fun q => ?_)
    · have H := ht4 q
      refine hw_ald (b := 0) (e := 0) (by decide +kernel) g0 (by decide) ?_
      refine hr_call (a0 := 22) (b := 235) (e := 1) (nl := 2) (As := []) (R := []) 192 rfl (by decide +kernel) rfl rfl (Nat.le_of_ble_eq_true rfl) (Nat.le_of_ble_eq_true rfl) ?_
      refine hw_mono H ?_
      rintro r ψ5 y5 ⟨hyx, hr, H⟩
      subst hyx
      subst hr
      refine ⟨hnen, ?_⟩
      show hw sc (d + 3) 238 159 L [] ψ5 y5 Q
      refine hw_ld (b := 2) (e := 0) (by decide +kernel) g2 ?_
      exact hw_ret (a0 := 0) (e := 0) (by decide +kernel) (Or.inl rfl) H
    · have H := hf4 q
      refine hw_ald (b := 0) (e := 0) (by decide +kernel) g0 (by decide) ?_
      refine hr_call (a0 := 22) (b := 226) (e := 1) (nl := 3) (As := []) (R := []) 192 rfl (by decide +kernel) rfl rfl (Nat.le_of_ble_eq_true rfl) (Nat.le_of_ble_eq_true rfl) ?_
      refine hw_mono H ?_
      rintro r ψ7 y7 ⟨hyx, hr, H⟩
      subst hyx
      subst hr
      refine ⟨hnen, ?_⟩
      show hw sc (d + 3) 238 90 L [] ψ7 y7 Q
      refine hw_k (c := 0) (b := 0) (e := 1) (by decide +kernel) ?_
      refine hw_st (L' := (jm_st1 L 4 (0, 0))) (b := 4) (e := 1) (by decide +kernel) rfl ?_
      exact H
theorem sf_238_192_l75 {sc : List Int} {d x : Nat} {Q : Option jm_V → hf_F → Nat → Prop} : ∀ (n : Nat) (φ : hf_F) (L : jm_L) (l1 l2 l3 : Int), jm_get L 0 = some (2, 192) → jm_get L 1 = some (0, l1) → jm_get L 2 = some (0, l2) → jm_get L 3 = some (0, l3) → Inv φ → 301 - l3 < (n : Int) → (-2147483648 : Int) ≤ l1 → l1 ≤ 2147483647 → (-1 : Int) ≤ l2 → l2 ≤ 300 → 1 ≤ l3 → l3 ≤ 301 → (∀ (r : Int) (ψ : hf_F), Inv ψ → Fr [194, 200, 193000] φ ψ → True → F_RideLawsModel_all_192_l75 n φ l1 l2 l3 = (r, ψ) → Q (some (0, r)) ψ x) → hw sc (d + 3) 238 75 L [] φ x Q := by
  intro n
  induction n with
  | zero =>
    intro φ L l1 l2 l3 g0 g1 g2 g3 hI hM b1a b1b b2a b2b b3a b3b hQ
    exfalso
    omega
  | succ n ih =>
    intro φ L l1 l2 l3 g0 g1 g2 g3 hI hM b1a b1b b2a b2b b3a b3b hQ
    refine sf_238_192_v75 g0 g1 g2 g3 ?_
    have e0 := F_RideLawsModel_all_192_l75_s (φ := φ) (l1 := l1) (l2 := l2) (l3 := l3) n
    refine ⟨by unfold hi; omega, by unfold hi; omega, fun q1 => ?_, fun q1 => ?_⟩
    · skip
      have e1a := e0.trans (if_pos q1)
      refine sf_235_192 (φ := φ) hI  (fun ψ2 hI2 hF2 hE2 => ⟨rfl, rfl, ?_⟩)
      have hG2 : Fr [194, 200, 193000] φ ψ2 := fr_tr (fr_rf) hF2 (by decide)
      have e2 := e1a.trans (bnv_e hE2)
      exact hQ l2 ψ2 hI2 hG2 trivial e2
    · skip
      have e1b := e0.trans (if_neg q1)
      refine ⟨by unfold hi; omega, fun q4 => ?_, fun q4 => ?_⟩
      · skip
        have e4a := e1b.trans (if_pos q4)
        refine sf_235_192 (φ := φ) hI  (fun ψ5 hI5 hF5 hE5 => ⟨rfl, rfl, ?_⟩)
        have hG5 : Fr [194, 200, 193000] φ ψ5 := fr_tr (fr_rf) hF5 (by decide)
        have e5 := e4a.trans (bnv_e hE5)
        exact hQ l2 ψ5 hI5 hG5 trivial e5
      · skip
        have e4b := e1b.trans (if_neg q4)
        refine sf_226_192 (φ := φ) hI  (fun ψ7 hI7 hF7 hE7 => ⟨rfl, rfl, ?_⟩)
        have hG7 : Fr [194, 200, 193000] φ ψ7 := fr_tr (fr_rf) hF7 (by decide)
        have e7 := e4b.trans (bnv_e hE7)
        exact sf_238_192_l93 (K := F_RideLawsModel_all_192_l75 n) ((6 - 0 : Int).toNat + 1) ψ7 (jm_st1 L 4 (0, 0)) l1 l2 l3 0 (get_st1 g0 (by decide) (fun q => absurd q.1 (by decide))) (get_st1 g1 (by decide) (fun q => absurd q.1 (by decide))) (get_st1 g2 (by decide) (fun q => absurd q.1 (by decide))) (get_st1 g3 (by decide) (fun q => tg0 q.2)) get_st1e hI7 (by omega) (by omega) (by omega) (by omega) (by omega) (by omega) (by omega) (by omega) (by omega) n (by omega) (fun φ2 L2 u1 u2 u3 w0 w1 w2 w3 hI2 hM2 x0 x1 x2 x3 x4 x5 hF2 hE2 => ih φ2 L2 u1 u2 u3 w0 w1 w2 w3 hI2 hM2 x0 x1 x2 x3 x4 x5 (fun rr χ hIχ hFχ hpχ hEχ => hQ rr χ hIχ (fr_tr (fr_tr hG7 hF2 (by decide)) hFχ (by decide)) hpχ ((e7.trans hE2).trans hEχ))) (fun rr χ hIχ hFχ hpχ hEχ => hQ rr χ hIχ (fr_tr hG7 hFχ (by decide)) hpχ (e7.trans hEχ))
theorem sf_238_192_v9 {sc : List Int} {d : Nat} {φ : hf_F} {x : Nat} {Q : Option jm_V → hf_F → Nat → Prop} {L : jm_L} {l1 l2 : Int} (g0 : jm_get L 0 = some (2, 192)) (g1 : jm_get L 1 = some (0, l1)) (g2 : jm_get L 2 = some (0, l2))
    (H : hi l2 ∧ hi (φ 194 3) ∧ ((φ 194 3) ≤ l2 → hw sc (d + 2) 233 0 [(0, (2, 192))] [] φ x (fun r ψ2 y2 => y2 = x ∧ (r = none ∧ (hi l1 ∧ (¬ l1 = 0 → hw sc (d + 3) 238 75 (jm_st1 (jm_st1 L 2 (0, (-1 : Int))) 3 (0, 1)) [] ψ2 x Q) ∧ (¬ (¬ l1 = 0) → hw sc (d + 3) 238 75 (jm_st1 (jm_st1 L 2 (0, 0)) 3 (0, 1)) [] ψ2 x Q))))) ∧ (¬ (φ 194 3) ≤ l2 → 0 ≤ (112 + l2) ∧ (112 + l2) < 361 ∧ (hi (φ 194 ((112 + l2).toNat)) ∧ ((φ 194 ((112 + l2).toNat)) ≤ 0 → hw sc (d + 3) 238 9 (jm_st1 (jm_st1 L 1 (0, hb_or l1 0)) 2 (0, l2 + 1)) [] φ x Q) ∧ (¬ (φ 194 ((112 + l2).toNat)) ≤ 0 → 0 ≤ (118 + l2) ∧ (118 + l2) < 361 ∧ (hi (φ 194 ((118 + l2).toNat)) ∧ ((φ 194 ((118 + l2).toNat)) ≤ 0 → hw sc (d + 3) 238 9 (jm_st1 (jm_st1 L 1 (0, hb_or l1 0)) 2 (0, l2 + 1)) [] φ x Q) ∧ (¬ (φ 194 ((118 + l2).toNat)) ≤ 0 → hw sc (d + 3) 238 9 (jm_st1 (jm_st1 L 1 (0, hb_or l1 (hb_shl 1 l2))) 2 (0, l2 + 1)) [] φ x Q)))))) :
    hw sc (d + 3) 238 9 L [] φ x Q := by
  refine hw_ld (b := 2) (e := 0) (by decide +kernel) g2 ?_
  refine hw_ald (b := 0) (e := 0) (by decide +kernel) g0 (by decide) ?_
  refine hr_gr (w := 194) (b := 12) (e := 6) 192 rfl (by decide +kernel) ?_
  refine hw_k (c := 3) (b := 0) (e := 1) (by decide +kernel) ?_
  refine hr_al (b := 0) (a0 := 0) (e := 0) (n := 361) (w := φ 194 3) 194 rfl (by decide +kernel) (by decide) (by decide) (by decide) rfl ?_
  obtain ⟨hz1, hy1, ht1, hf1⟩ := H
  refine hw_if2 (a0 := 0) (b := 3) (e := 59) (by decide +kernel) hz1 hy1 (fun q => ?_) (fun q => ?_)
  · have H := ht1 q
    refine hw_ald (b := 0) (e := 0) (by decide +kernel) g0 (by decide) ?_
    refine hr_call (a0 := 22) (b := 233) (e := 1) (nl := 2) (As := []) (R := []) 192 rfl (by decide +kernel) rfl rfl (Nat.le_of_ble_eq_true rfl) (Nat.le_of_ble_eq_true rfl) ?_
    refine hw_mono H ?_
    rintro r ψ2 y2 ⟨hyx, hr, H⟩
    subst hyx
    subst hr
    refine ⟨hnen, ?_⟩
    show hw sc (d + 3) 238 63 L [] ψ2 y2 Q
    refine hw_ld (b := 1) (e := 0) (by decide +kernel) g1 ?_
    obtain ⟨hz3, ht3, hf3⟩ := H
    refine hw_if (a0 := 0) (b := 1) (e := 71) (by decide +kernel) hz3 (fun q => ?_) (fun q => ?_)
    · have H := ht3 q
      refine hw_k (c := (-1 : Int)) (b := 0) (e := 1) (by decide +kernel) ?_
      refine hw_st (L' := (jm_st1 L 2 (0, (-1 : Int)))) (b := 2) (e := 0) (by decide +kernel) rfl ?_
      refine hw_k (c := 1) (b := 0) (e := 1) (by decide +kernel) ?_
      refine hw_st (L' := (jm_st1 (jm_st1 L 2 (0, (-1 : Int))) 3 (0, 1))) (b := 3) (e := 0) (by decide +kernel) rfl ?_
      exact H
    · have H := hf3 q
      refine hw_k (c := 0) (b := 0) (e := 1) (by decide +kernel) ?_
      refine hw_goto (a0 := 0) (b := 0) (e := 72) (by decide +kernel) ?_
      refine hw_st (L' := (jm_st1 L 2 (0, 0))) (b := 2) (e := 0) (by decide +kernel) rfl ?_
      refine hw_k (c := 1) (b := 0) (e := 1) (by decide +kernel) ?_
      refine hw_st (L' := (jm_st1 (jm_st1 L 2 (0, 0)) 3 (0, 1))) (b := 3) (e := 0) (by decide +kernel) rfl ?_
      exact H
  · have H := hf1 q
    refine hw_ld (b := 1) (e := 0) (by decide +kernel) g1 ?_
    refine hw_ald (b := 0) (e := 0) (by decide +kernel) g0 (by decide) ?_
    refine hr_gr (w := 194) (b := 12) (e := 6) 192 rfl (by decide +kernel) ?_
    refine hw_k (c := 112) (b := 1) (e := 2) (by decide +kernel) ?_
    refine hw_ld (b := 2) (e := 0) (by decide +kernel) g2 ?_
    refine hw_bin (w := 112 + l2) (a0 := 0) (b := 0) (e := 0) (by decide +kernel) rfl ?_
    obtain ⟨hl4, hu4, H⟩ := H
    refine hr_al (b := 0) (a0 := 0) (e := 0) (n := 361) (w := φ 194 ((112 + l2).toNat)) 194 rfl (by decide +kernel) (by decide) hl4 hu4 rfl ?_
    obtain ⟨hz5, ht5, hf5⟩ := H
    refine hw_if (a0 := 0) (b := 5) (e := 50) (by decide +kernel) hz5 (fun q => ?_) (fun q => ?_)
    · have H := ht5 q
      refine hw_k (c := 0) (b := 0) (e := 1) (by decide +kernel) ?_
      refine hw_bin (w := hb_or l1 0) (a0 := 0) (b := 4) (e := 0) (by decide +kernel) rfl ?_
      refine hw_st (L' := (jm_st1 L 1 (0, hb_or l1 0))) (b := 1) (e := 0) (by decide +kernel) rfl ?_
      refine hw_inc (L' := (jm_st1 (jm_st1 L 1 (0, hb_or l1 0)) 2 (0, l2 + 1))) (c := 1) (b := 2) (e := 0) (by decide +kernel) (get_st1 g2 (by decide) (fun q => absurd q.1 (by decide))) rfl ?_
      refine hw_goto (a0 := 0) (b := 0) (e := 9) (by decide +kernel) ?_
      exact H
    · have H := hf5 q
      refine hw_ald (b := 0) (e := 0) (by decide +kernel) g0 (by decide) ?_
      refine hr_gr (w := 194) (b := 12) (e := 6) 192 rfl (by decide +kernel) ?_
      refine hw_k (c := 118) (b := 1) (e := 2) (by decide +kernel) ?_
      refine hw_ld (b := 2) (e := 0) (by decide +kernel) g2 ?_
      refine hw_bin (w := 118 + l2) (a0 := 0) (b := 0) (e := 0) (by decide +kernel) rfl ?_
      obtain ⟨hl6, hu6, H⟩ := H
      refine hr_al (b := 0) (a0 := 0) (e := 0) (n := 361) (w := φ 194 ((118 + l2).toNat)) 194 rfl (by decide +kernel) (by decide) hl6 hu6 rfl ?_
      obtain ⟨hz7, ht7, hf7⟩ := H
      refine hw_if (a0 := 0) (b := 5) (e := 50) (by decide +kernel) hz7 (fun q => ?_) (fun q => ?_)
      · have H := ht7 q
        refine hw_k (c := 0) (b := 0) (e := 1) (by decide +kernel) ?_
        refine hw_bin (w := hb_or l1 0) (a0 := 0) (b := 4) (e := 0) (by decide +kernel) rfl ?_
        refine hw_st (L' := (jm_st1 L 1 (0, hb_or l1 0))) (b := 1) (e := 0) (by decide +kernel) rfl ?_
        refine hw_inc (L' := (jm_st1 (jm_st1 L 1 (0, hb_or l1 0)) 2 (0, l2 + 1))) (c := 1) (b := 2) (e := 0) (by decide +kernel) (get_st1 g2 (by decide) (fun q => absurd q.1 (by decide))) rfl ?_
        refine hw_goto (a0 := 0) (b := 0) (e := 9) (by decide +kernel) ?_
        exact H
      · have H := hf7 q
        refine hw_k (c := 1) (b := 0) (e := 1) (by decide +kernel) ?_
        refine hw_ld (b := 2) (e := 0) (by decide +kernel) g2 ?_
        refine hw_bin (w := hb_shl 1 l2) (a0 := 0) (b := 6) (e := 0) (by decide +kernel) rfl ?_
        refine hw_goto (a0 := 0) (b := 0) (e := 51) (by decide +kernel) ?_
        refine hw_bin (w := hb_or l1 (hb_shl 1 l2)) (a0 := 0) (b := 4) (e := 0) (by decide +kernel) rfl ?_
        refine hw_st (L' := (jm_st1 L 1 (0, hb_or l1 (hb_shl 1 l2)))) (b := 1) (e := 0) (by decide +kernel) rfl ?_
        refine hw_inc (L' := (jm_st1 (jm_st1 L 1 (0, hb_or l1 (hb_shl 1 l2))) 2 (0, l2 + 1))) (c := 1) (b := 2) (e := 0) (by decide +kernel) (get_st1 g2 (by decide) (fun q => absurd q.1 (by decide))) rfl ?_
        refine hw_goto (a0 := 0) (b := 0) (e := 9) (by decide +kernel) ?_
        exact H
theorem sf_238_192_l9 {sc : List Int} {d x : Nat} {Q : Option jm_V → hf_F → Nat → Prop} : ∀ (n : Nat) (φ : hf_F) (L : jm_L) (l1 l2 : Int), jm_get L 0 = some (2, 192) → jm_get L 1 = some (0, l1) → jm_get L 2 = some (0, l2) → Inv φ → 6 - l2 < (n : Int) → (-2147483648 : Int) ≤ l1 → l1 ≤ 2147483647 → 0 ≤ l2 → l2 ≤ 6 → (∀ (r : Int) (ψ : hf_F), Inv ψ → Fr [194, 200, 193000] φ ψ → True → F_RideLawsModel_all_192_l9 n φ l1 l2 = (r, ψ) → Q (some (0, r)) ψ x) → hw sc (d + 3) 238 9 L [] φ x Q := by
  intro n
  induction n with
  | zero =>
    intro φ L l1 l2 g0 g1 g2 hI hM b1a b1b b2a b2b hQ
    exfalso
    omega
  | succ n ih =>
    intro φ L l1 l2 g0 g1 g2 hI hM b1a b1b b2a b2b hQ
    refine sf_238_192_v9 g0 g1 g2 ?_
    have e0 := F_RideLawsModel_all_192_l9_s (φ := φ) (l1 := l1) (l2 := l2) n
    have f1 := iv_at (a := 194) (k := 3) (lo := 0) (u := 6) hI (by decide +kernel)
    refine ⟨by unfold hi; omega, by unfold hi; omega, fun q1 => ?_, fun q1 => ?_⟩
    · skip
      have e1a := e0.trans (if_pos q1)
      refine sf_233_192 (φ := φ) hI  (fun ψ2 hI2 hF2 hE2 => ⟨rfl, rfl, ?_⟩)
      have hG2 : Fr [194, 200, 193000] φ ψ2 := fr_tr (fr_rf) hF2 (by decide)
      have e2 := e1a.trans (bnv_e hE2)
      refine ⟨by unfold hi; omega, fun q3 => ?_, fun q3 => ?_⟩
      · skip
        have e3a := e2.trans (if_pos q3)
        exact sf_238_192_l75 ((301 - 1 : Int).toNat + 1) ψ2 (jm_st1 (jm_st1 L 2 (0, (-1 : Int))) 3 (0, 1)) l1 (-1 : Int) 1 (get_st1 (get_st1 g0 (by decide) (fun q => absurd q.1 (by decide))) (by decide) (fun q => absurd q.1 (by decide))) (get_st1 (get_st1 g1 (by decide) (fun q => tg0 q.2)) (by decide) (fun q => absurd q.1 (by decide))) (get_st1 get_st1e (by decide) (fun q => tg0 q.2)) get_st1e hI2 (by omega) (by omega) (by omega) (by omega) (by omega) (by omega) (by omega) (fun rr χ hIχ hFχ hpχ hEχ => hQ rr χ hIχ (fr_tr hG2 hFχ (by decide)) hpχ (e3a.trans hEχ))
      · skip
        have e3b := e2.trans (if_neg q3)
        exact sf_238_192_l75 ((301 - 1 : Int).toNat + 1) ψ2 (jm_st1 (jm_st1 L 2 (0, 0)) 3 (0, 1)) l1 0 1 (get_st1 (get_st1 g0 (by decide) (fun q => absurd q.1 (by decide))) (by decide) (fun q => absurd q.1 (by decide))) (get_st1 (get_st1 g1 (by decide) (fun q => tg0 q.2)) (by decide) (fun q => absurd q.1 (by decide))) (get_st1 get_st1e (by decide) (fun q => tg0 q.2)) get_st1e hI2 (by omega) (by omega) (by omega) (by omega) (by omega) (by omega) (by omega) (fun rr χ hIχ hFχ hpχ hEχ => hQ rr χ hIχ (fr_tr hG2 hFχ (by decide)) hpχ (e3b.trans hEχ))
    · skip
      have e1b := e0.trans (if_neg q1)
      refine ⟨by omega, by omega, ?_⟩
      have f2 := iv_ar (a := 194) (s := 112) (t := 118) (lo := 0) (u := 8) (z := 112 + l2) hI (by decide +kernel) (by omega) (by omega)
      refine ⟨by unfold hi; omega, fun q5 => ?_, fun q5 => ?_⟩
      · skip
        have e5a := e1b.trans (if_pos q5)
        have f3 := hr_or l1 0
        exact ih φ (jm_st1 (jm_st1 L 1 (0, hb_or l1 0)) 2 (0, l2 + 1)) (hb_or l1 0) (l2 + 1) (get_st1 (get_st1 g0 (by decide) (fun q => tg2 q.2)) (by decide) (fun q => absurd q.1 (by decide))) (get_st1 get_st1e (by decide) (fun q => tg0 q.2)) get_st1e hI (by omega) (by omega) (by omega) (by omega) (by omega) (fun rr χ hIχ hFχ hpχ hEχ => hQ rr χ hIχ (fr_tr (fr_rf) hFχ (by decide)) hpχ (e5a.trans hEχ))
      · skip
        have e5b := e1b.trans (if_neg q5)
        refine ⟨by omega, by omega, ?_⟩
        have f4 := iv_ar (a := 194) (s := 118) (t := 124) (lo := 0) (u := 6) (z := 118 + l2) hI (by decide +kernel) (by omega) (by omega)
        refine ⟨by unfold hi; omega, fun q7 => ?_, fun q7 => ?_⟩
        · skip
          have e7a := e5b.trans (if_pos q7)
          have f5 := hr_or l1 0
          exact ih φ (jm_st1 (jm_st1 L 1 (0, hb_or l1 0)) 2 (0, l2 + 1)) (hb_or l1 0) (l2 + 1) (get_st1 (get_st1 g0 (by decide) (fun q => tg2 q.2)) (by decide) (fun q => absurd q.1 (by decide))) (get_st1 get_st1e (by decide) (fun q => tg0 q.2)) get_st1e hI (by omega) (by omega) (by omega) (by omega) (by omega) (fun rr χ hIχ hFχ hpχ hEχ => hQ rr χ hIχ (fr_tr (fr_rf) hFχ (by decide)) hpχ (e7a.trans hEχ))
        · skip
          have e7b := e5b.trans (if_neg q7)
          have f6 := hr_shl1 l2
          have f7 := hr_shl 1 l2
          have f8 := hr_or l1 (hb_shl 1 l2)
          exact ih φ (jm_st1 (jm_st1 L 1 (0, hb_or l1 (hb_shl 1 l2))) 2 (0, l2 + 1)) (hb_or l1 (hb_shl 1 l2)) (l2 + 1) (get_st1 (get_st1 g0 (by decide) (fun q => tg2 q.2)) (by decide) (fun q => absurd q.1 (by decide))) (get_st1 get_st1e (by decide) (fun q => tg0 q.2)) get_st1e hI (by omega) (by omega) (by omega) (by omega) (by omega) (fun rr χ hIχ hFχ hpχ hEχ => hQ rr χ hIχ (fr_tr (fr_rf) hFχ (by decide)) hpχ (e7b.trans hEχ))
theorem sf_238_192_v {sc : List Int} {d : Nat} {φ : hf_F} {x : Nat} {Q : Option jm_V → hf_F → Nat → Prop} 
    (H : hw sc (d + 3) 238 9 (jm_st1 (jm_st1 [(0, (2, 192))] 1 (0, 0)) 2 (0, 0)) [] (hf_up φ 192 0 0) x Q) :
    hw sc (d + 3) 238 0 [(0, (2, 192))] [] φ x Q := by
  refine hw_ald (b := 0) (e := 0) (by decide +kernel) rfl (by decide) ?_
  refine hw_k (c := 0) (b := 0) (e := 1) (by decide +kernel) ?_
  refine hr_pi (b := 12) (e := 0) 192 rfl (by decide +kernel) ?_
  refine hw_k (c := 0) (b := 0) (e := 1) (by decide +kernel) ?_
  refine hw_st (L' := (jm_st1 [(0, (2, 192))] 1 (0, 0))) (b := 1) (e := 0) (by decide +kernel) rfl ?_
  refine hw_k (c := 0) (b := 0) (e := 1) (by decide +kernel) ?_
  refine hw_st (L' := (jm_st1 (jm_st1 [(0, (2, 192))] 1 (0, 0)) 2 (0, 0))) (b := 2) (e := 0) (by decide +kernel) rfl ?_
  exact H
theorem sf_238_192 {sc : List Int} {d : Nat} {φ : hf_F} {x : Nat} {Q : Option jm_V → hf_F → Nat → Prop}  (hI : Inv φ)  (hQ : ∀ (r : Int) (ψ : hf_F), Inv ψ → Fr [194, 200, 193000] φ ψ → True → F_RideLawsModel_all_192 φ = (r, ψ) → Q (some (0, r)) ψ x) : hw sc (d + 3) 238 0 [(0, (2, 192))] [] φ x Q := by
  apply sf_238_192_v
  have e0 : F_RideLawsModel_all_192 φ = _ := rfl
  have i1 : Inv (hf_up φ 192 0 0) := iv_up (lo := 0) (u := 1) hI (by decide +kernel) (by omega) (by omega)
  have r1 : Fr [194, 200, 193000] φ (hf_up φ 192 0 0) := fr_up (fr_rf) (by decide)
  exact sf_238_192_l9 ((6 - 0 : Int).toNat + 1) (hf_up φ 192 0 0) (jm_st1 (jm_st1 [(0, (2, 192))] 1 (0, 0)) 2 (0, 0)) 0 0 (get_st1 (get_st1 rfl (by decide) (fun q => tg2 q.2)) (by decide) (fun q => absurd q.1 (by decide))) (get_st1 get_st1e (by decide) (fun q => tg0 q.2)) get_st1e i1 (by omega) (by omega) (by omega) (by omega) (by omega) (fun rr χ hIχ hFχ hpχ hEχ => hQ rr χ hIχ (fr_tr r1 hFχ (by decide)) hpχ (e0.trans hEχ))
theorem sf_247_192_v {sc : List Int} {d : Nat} {φ : hf_F} {x : Nat} {Q : Option jm_V → hf_F → Nat → Prop} {v1 v2 : Int}
    (H : hw sc (d + 1) 202 0 [(0, (2, 192)), (1, (0, v1))] [] φ x (fun r ψ1 y1 => y1 = x ∧ φ = ψ1 ∧ (∃ z1 : Int, r = some (0, z1) ∧ (hi z1 ∧ (z1 = 0 → hw sc (d + 1) 203 0 [(0, (2, 192)), (1, (0, 1))] [] φ x (fun r ψ3 y3 => y3 = x ∧ (∃ z3 : Int, r = some (0, z3) ∧ (hi z3 ∧ (z3 = 0 → hi v2 ∧ (¬ v2 = 0 → hw sc (d + 1) 213 0 [(0, (2, 192))] [] ψ3 x (fun r ψ6 y6 => y6 = x ∧ ψ3 = ψ6 ∧ (∃ z6 : Int, r = some (0, z6) ∧ (hw sc (d + 1) 213 0 [(0, (2, 192))] [] ψ3 x (fun r ψ7 y7 => y7 = x ∧ ψ3 = ψ7 ∧ (∃ z7 : Int, r = some (0, z7) ∧ (0 ≤ (166 + v1) ∧ (166 + v1) < 361 ∧ (hw sc (d + 1) 243 0 [(0, (0, z7)), (1, (0, ψ3 194 ((166 + v1).toNat)))] [] ψ3 x (fun r ψ9 y9 => y9 = x ∧ ψ3 = ψ9 ∧ (∃ z9 : Int, r = some (0, z9) ∧ (¬ jm_n z9 = 0 ∧ (Q (some (0, (jm_n z6).tdiv (jm_n z9))) ψ3 x)))))))))))) ∧ (¬ (¬ v2 = 0) → 0 ≤ (166 + v1) ∧ (166 + v1) < 361 ∧ (hw sc (d + 1) 213 0 [(0, (2, 192))] [] ψ3 x (fun r ψ13 y13 => y13 = x ∧ ψ3 = ψ13 ∧ (∃ z13 : Int, r = some (0, z13) ∧ (0 ≤ (166 + v1) ∧ (166 + v1) < 361 ∧ (hw sc (d + 1) 243 0 [(0, (0, z13)), (1, (0, ψ3 194 ((166 + v1).toNat)))] [] ψ3 x (fun r ψ15 y15 => y15 = x ∧ ψ3 = ψ15 ∧ (∃ z15 : Int, r = some (0, z15) ∧ (¬ jm_n z15 = 0 ∧ (Q (some (0, (jm_n (ψ3 194 ((166 + v1).toNat))).tdiv (jm_n z15))) ψ3 x))))))))))) ∧ (¬ z3 = 0 → Q (some (0, 0)) ψ3 x))))) ∧ (¬ z1 = 0 → hw sc (d + 1) 188 0 [(0, (0, v2)), (1, (0, 0)), (2, (0, 1))] [] φ x (fun r ψ19 y19 => y19 = x ∧ φ = ψ19 ∧ (∃ z19 : Int, r = some (0, z19) ∧ (hi z19 ∧ (z19 = 0 → hw sc (d + 1) 203 0 [(0, (2, 192)), (1, (0, 1))] [] φ x (fun r ψ21 y21 => y21 = x ∧ (∃ z21 : Int, r = some (0, z21) ∧ (hi z21 ∧ (z21 = 0 → hi v2 ∧ (¬ v2 = 0 → hw sc (d + 1) 213 0 [(0, (2, 192))] [] ψ21 x (fun r ψ24 y24 => y24 = x ∧ ψ21 = ψ24 ∧ (∃ z24 : Int, r = some (0, z24) ∧ (hw sc (d + 1) 213 0 [(0, (2, 192))] [] ψ21 x (fun r ψ25 y25 => y25 = x ∧ ψ21 = ψ25 ∧ (∃ z25 : Int, r = some (0, z25) ∧ (0 ≤ (166 + v1) ∧ (166 + v1) < 361 ∧ (hw sc (d + 1) 243 0 [(0, (0, z25)), (1, (0, ψ21 194 ((166 + v1).toNat)))] [] ψ21 x (fun r ψ27 y27 => y27 = x ∧ ψ21 = ψ27 ∧ (∃ z27 : Int, r = some (0, z27) ∧ (¬ jm_n z27 = 0 ∧ (Q (some (0, (jm_n z24).tdiv (jm_n z27))) ψ21 x)))))))))))) ∧ (¬ (¬ v2 = 0) → 0 ≤ (166 + v1) ∧ (166 + v1) < 361 ∧ (hw sc (d + 1) 213 0 [(0, (2, 192))] [] ψ21 x (fun r ψ31 y31 => y31 = x ∧ ψ21 = ψ31 ∧ (∃ z31 : Int, r = some (0, z31) ∧ (0 ≤ (166 + v1) ∧ (166 + v1) < 361 ∧ (hw sc (d + 1) 243 0 [(0, (0, z31)), (1, (0, ψ21 194 ((166 + v1).toNat)))] [] ψ21 x (fun r ψ33 y33 => y33 = x ∧ ψ21 = ψ33 ∧ (∃ z33 : Int, r = some (0, z33) ∧ (¬ jm_n z33 = 0 ∧ (Q (some (0, (jm_n (ψ21 194 ((166 + v1).toNat))).tdiv (jm_n z33))) ψ21 x))))))))))) ∧ (¬ z21 = 0 → Q (some (0, 0)) ψ21 x))))) ∧ (¬ z19 = 0 → hw sc (d + 1) 213 0 [(0, (2, 192))] [] φ x (fun r ψ37 y37 => y37 = x ∧ φ = ψ37 ∧ (∃ z37 : Int, r = some (0, z37) ∧ ((¬ (jm_n z37) = 0 → hw sc (d + 1) 203 0 [(0, (2, 192)), (1, (0, 0))] [] φ x (fun r ψ39 y39 => y39 = x ∧ (∃ z39 : Int, r = some (0, z39) ∧ (hi z39 ∧ (z39 = 0 → hi v2 ∧ (¬ v2 = 0 → hw sc (d + 1) 213 0 [(0, (2, 192))] [] ψ39 x (fun r ψ42 y42 => y42 = x ∧ ψ39 = ψ42 ∧ (∃ z42 : Int, r = some (0, z42) ∧ (hw sc (d + 1) 213 0 [(0, (2, 192))] [] ψ39 x (fun r ψ43 y43 => y43 = x ∧ ψ39 = ψ43 ∧ (∃ z43 : Int, r = some (0, z43) ∧ (0 ≤ (166 + v1) ∧ (166 + v1) < 361 ∧ (hw sc (d + 1) 243 0 [(0, (0, z43)), (1, (0, ψ39 194 ((166 + v1).toNat)))] [] ψ39 x (fun r ψ45 y45 => y45 = x ∧ ψ39 = ψ45 ∧ (∃ z45 : Int, r = some (0, z45) ∧ (¬ jm_n z45 = 0 ∧ (Q (some (0, (jm_n z42).tdiv (jm_n z45))) ψ39 x)))))))))))) ∧ (¬ (¬ v2 = 0) → 0 ≤ (166 + v1) ∧ (166 + v1) < 361 ∧ (hw sc (d + 1) 213 0 [(0, (2, 192))] [] ψ39 x (fun r ψ49 y49 => y49 = x ∧ ψ39 = ψ49 ∧ (∃ z49 : Int, r = some (0, z49) ∧ (0 ≤ (166 + v1) ∧ (166 + v1) < 361 ∧ (hw sc (d + 1) 243 0 [(0, (0, z49)), (1, (0, ψ39 194 ((166 + v1).toNat)))] [] ψ39 x (fun r ψ51 y51 => y51 = x ∧ ψ39 = ψ51 ∧ (∃ z51 : Int, r = some (0, z51) ∧ (¬ jm_n z51 = 0 ∧ (Q (some (0, (jm_n (ψ39 194 ((166 + v1).toNat))).tdiv (jm_n z51))) ψ39 x))))))))))) ∧ (¬ z39 = 0 → Q (some (0, 0)) ψ39 x))))) ∧ (¬ (¬ (jm_n z37) = 0) → hw sc (d + 1) 203 0 [(0, (2, 192)), (1, (0, 1))] [] φ x (fun r ψ55 y55 => y55 = x ∧ (∃ z55 : Int, r = some (0, z55) ∧ (hi z55 ∧ (z55 = 0 → hi v2 ∧ (¬ v2 = 0 → hw sc (d + 1) 213 0 [(0, (2, 192))] [] ψ55 x (fun r ψ58 y58 => y58 = x ∧ ψ55 = ψ58 ∧ (∃ z58 : Int, r = some (0, z58) ∧ (hw sc (d + 1) 213 0 [(0, (2, 192))] [] ψ55 x (fun r ψ59 y59 => y59 = x ∧ ψ55 = ψ59 ∧ (∃ z59 : Int, r = some (0, z59) ∧ (0 ≤ (166 + v1) ∧ (166 + v1) < 361 ∧ (hw sc (d + 1) 243 0 [(0, (0, z59)), (1, (0, ψ55 194 ((166 + v1).toNat)))] [] ψ55 x (fun r ψ61 y61 => y61 = x ∧ ψ55 = ψ61 ∧ (∃ z61 : Int, r = some (0, z61) ∧ (¬ jm_n z61 = 0 ∧ (Q (some (0, (jm_n z58).tdiv (jm_n z61))) ψ55 x)))))))))))) ∧ (¬ (¬ v2 = 0) → 0 ≤ (166 + v1) ∧ (166 + v1) < 361 ∧ (hw sc (d + 1) 213 0 [(0, (2, 192))] [] ψ55 x (fun r ψ65 y65 => y65 = x ∧ ψ55 = ψ65 ∧ (∃ z65 : Int, r = some (0, z65) ∧ (0 ≤ (166 + v1) ∧ (166 + v1) < 361 ∧ (hw sc (d + 1) 243 0 [(0, (0, z65)), (1, (0, ψ55 194 ((166 + v1).toNat)))] [] ψ55 x (fun r ψ67 y67 => y67 = x ∧ ψ55 = ψ67 ∧ (∃ z67 : Int, r = some (0, z67) ∧ (¬ jm_n z67 = 0 ∧ (Q (some (0, (jm_n (ψ55 194 ((166 + v1).toNat))).tdiv (jm_n z67))) ψ55 x))))))))))) ∧ (¬ z55 = 0 → Q (some (0, 0)) ψ55 x))))))))))))))))) :
    hw sc (d + 2) 247 0 [(0, (2, 192)), (1, (0, v1)), (2, (0, v2))] [] φ x Q := by
  refine hw_ald (b := 0) (e := 0) (by decide +kernel) rfl (by decide) ?_
  refine hw_ald (b := 0) (e := 0) (by decide +kernel) rfl (by decide) ?_
  refine hw_ld (b := 1) (e := 0) (by decide +kernel) rfl ?_
  refine hr_call (a0 := 22) (b := 202) (e := 2) (nl := 2) (As := [(0, v1)]) (R := [(2, 192)]) 192 rfl (by decide +kernel) rfl rfl (Nat.le_of_ble_eq_true rfl) (Nat.le_of_ble_eq_true rfl) ?_
  refine hw_mono H ?_
  rintro r ψ1 y1 ⟨hyx, hψx, z1, hr, H⟩
  subst hyx
  subst hψx
  subst hr
  refine ⟨hne0, ?_⟩
  show hw sc (d + 2) 247 6 [(0, (2, 192)), (1, (0, v1)), (2, (0, v2))] [(0, z1), (2, 192)] φ y1 Q
  obtain ⟨hz2, ht2, hf2⟩ := H
  refine hw_if (a0 := 0) (b := 0) (e := 25) (by decide +kernel) hz2 (fun q => ?_) (fun q => ?_)
  · have H := ht2 q
    refine hw_k (c := 1) (b := 0) (e := 1) (by decide +kernel) ?_
    refine hw_goto (a0 := 0) (b := 0) (e := 30) (by decide +kernel) ?_
    refine hr_call (a0 := 22) (b := 203) (e := 2) (nl := 2) (As := [(0, 1)]) (R := []) 192 rfl (by decide +kernel) rfl rfl (Nat.le_of_ble_eq_true rfl) (Nat.le_of_ble_eq_true rfl) ?_
    refine hw_mono H ?_
    rintro r ψ3 y3 ⟨hyx, z3, hr, H⟩
    subst hyx
    subst hr
    refine ⟨hne0, ?_⟩
    show hw sc (d + 2) 247 33 [(0, (2, 192)), (1, (0, v1)), (2, (0, v2))] [(0, z3)] ψ3 y3 Q
    obtain ⟨hz4, ht4, hf4⟩ := H
    refine hw_if (a0 := 0) (b := 0) (e := 38) (by decide +kernel) hz4 (fun q => ?_) (fun q => ?_)
    · have H := ht4 q
      refine hw_ld (b := 2) (e := 0) (by decide +kernel) rfl ?_
      obtain ⟨hz5, ht5, hf5⟩ := H
      refine hw_if (a0 := 0) (b := 1) (e := 55) (by decide +kernel) hz5 (fun q => ?_) (fun q => ?_)
      · have H := ht5 q
        refine hw_ald (b := 0) (e := 0) (by decide +kernel) rfl (by decide) ?_
        refine hr_call (a0 := 22) (b := 213) (e := 1) (nl := 3) (As := []) (R := []) 192 rfl (by decide +kernel) rfl rfl (Nat.le_of_ble_eq_true rfl) (Nat.le_of_ble_eq_true rfl) ?_
        refine hw_mono H ?_
        rintro r ψ6 y6 ⟨hyx, hψx, z6, hr, H⟩
        subst hyx
        subst hψx
        subst hr
        refine ⟨hne0, ?_⟩
        show hw sc (d + 2) 247 59 [(0, (2, 192)), (1, (0, v1)), (2, (0, v2))] [(0, z6)] ψ3 y6 Q
        refine hw_ald (b := 0) (e := 0) (by decide +kernel) rfl (by decide) ?_
        refine hr_call (a0 := 22) (b := 213) (e := 1) (nl := 3) (As := []) (R := [(0, z6)]) 192 rfl (by decide +kernel) rfl rfl (Nat.le_of_ble_eq_true rfl) (Nat.le_of_ble_eq_true rfl) ?_
        refine hw_mono H ?_
        rintro r ψ7 y7 ⟨hyx, hψx, z7, hr, H⟩
        subst hyx
        subst hψx
        subst hr
        refine ⟨hne0, ?_⟩
        show hw sc (d + 2) 247 63 [(0, (2, 192)), (1, (0, v1)), (2, (0, v2))] [(0, z7), (0, z6)] ψ3 y7 Q
        refine hw_ald (b := 0) (e := 0) (by decide +kernel) rfl (by decide) ?_
        refine hr_gr (w := 194) (b := 12) (e := 6) 192 rfl (by decide +kernel) ?_
        refine hw_k (c := 166) (b := 2) (e := 3) (by decide +kernel) ?_
        refine hw_ld (b := 1) (e := 0) (by decide +kernel) rfl ?_
        refine hw_bin (w := 166 + v1) (a0 := 0) (b := 0) (e := 0) (by decide +kernel) rfl ?_
        obtain ⟨hl8, hu8, H⟩ := H
        refine hr_al (b := 0) (a0 := 0) (e := 0) (n := 361) (w := ψ3 194 ((166 + v1).toNat)) 194 rfl (by decide +kernel) (by decide) hl8 hu8 rfl ?_
        refine hr_calls (b := 243) (e := 2) (nl := 5) (As := [(0, z7), (0, ψ3 194 ((166 + v1).toNat))]) (R := [(0, z6)]) (by decide +kernel) rfl rfl (Nat.le_of_ble_eq_true rfl) (Nat.le_of_ble_eq_true rfl) ?_
        refine hw_mono H ?_
        rintro r ψ9 y9 ⟨hyx, hψx, z9, hr, H⟩
        subst hyx
        subst hψx
        subst hr
        refine ⟨hne0, ?_⟩
        show hw sc (d + 2) 247 76 [(0, (2, 192)), (1, (0, v1)), (2, (0, v2))] [(0, z9), (0, z6)] ψ3 y9 Q
        obtain ⟨hn10, H⟩ := H
        refine hw_bin (w := (jm_n z6).tdiv (jm_n z9)) (a0 := 0) (b := 9) (e := 0) (by decide +kernel) (hb_divn hn10) ?_
        exact hw_ret (a0 := 0) (e := 0) (by decide +kernel) (Or.inl rfl) H
      · have H := hf5 q
        refine hw_ald (b := 0) (e := 0) (by decide +kernel) rfl (by decide) ?_
        refine hr_gr (w := 194) (b := 12) (e := 6) 192 rfl (by decide +kernel) ?_
        refine hw_k (c := 166) (b := 2) (e := 3) (by decide +kernel) ?_
        refine hw_ld (b := 1) (e := 0) (by decide +kernel) rfl ?_
        refine hw_bin (w := 166 + v1) (a0 := 0) (b := 0) (e := 0) (by decide +kernel) rfl ?_
        obtain ⟨hl12, hu12, H⟩ := H
        refine hr_al (b := 0) (a0 := 0) (e := 0) (n := 361) (w := ψ3 194 ((166 + v1).toNat)) 194 rfl (by decide +kernel) (by decide) hl12 hu12 rfl ?_
        refine hw_goto (a0 := 0) (b := 0) (e := 59) (by decide +kernel) ?_
        refine hw_ald (b := 0) (e := 0) (by decide +kernel) rfl (by decide) ?_
        refine hr_call (a0 := 22) (b := 213) (e := 1) (nl := 3) (As := []) (R := [(0, ψ3 194 ((166 + v1).toNat))]) 192 rfl (by decide +kernel) rfl rfl (Nat.le_of_ble_eq_true rfl) (Nat.le_of_ble_eq_true rfl) ?_
        refine hw_mono H ?_
        rintro r ψ13 y13 ⟨hyx, hψx, z13, hr, H⟩
        subst hyx
        subst hψx
        subst hr
        refine ⟨hne0, ?_⟩
        show hw sc (d + 2) 247 63 [(0, (2, 192)), (1, (0, v1)), (2, (0, v2))] [(0, z13), (0, ψ3 194 ((166 + v1).toNat))] ψ3 y13 Q
        refine hw_ald (b := 0) (e := 0) (by decide +kernel) rfl (by decide) ?_
        refine hr_gr (w := 194) (b := 12) (e := 6) 192 rfl (by decide +kernel) ?_
        refine hw_k (c := 166) (b := 2) (e := 3) (by decide +kernel) ?_
        refine hw_ld (b := 1) (e := 0) (by decide +kernel) rfl ?_
        refine hw_bin (w := 166 + v1) (a0 := 0) (b := 0) (e := 0) (by decide +kernel) rfl ?_
        obtain ⟨hl14, hu14, H⟩ := H
        refine hr_al (b := 0) (a0 := 0) (e := 0) (n := 361) (w := ψ3 194 ((166 + v1).toNat)) 194 rfl (by decide +kernel) (by decide) hl14 hu14 rfl ?_
        refine hr_calls (b := 243) (e := 2) (nl := 5) (As := [(0, z13), (0, ψ3 194 ((166 + v1).toNat))]) (R := [(0, ψ3 194 ((166 + v1).toNat))]) (by decide +kernel) rfl rfl (Nat.le_of_ble_eq_true rfl) (Nat.le_of_ble_eq_true rfl) ?_
        refine hw_mono H ?_
        rintro r ψ15 y15 ⟨hyx, hψx, z15, hr, H⟩
        subst hyx
        subst hψx
        subst hr
        refine ⟨hne0, ?_⟩
        show hw sc (d + 2) 247 76 [(0, (2, 192)), (1, (0, v1)), (2, (0, v2))] [(0, z15), (0, ψ3 194 ((166 + v1).toNat))] ψ3 y15 Q
        obtain ⟨hn16, H⟩ := H
        refine hw_bin (w := (jm_n (ψ3 194 ((166 + v1).toNat))).tdiv (jm_n z15)) (a0 := 0) (b := 9) (e := 0) (by decide +kernel) (hb_divn hn16) ?_
        exact hw_ret (a0 := 0) (e := 0) (by decide +kernel) (Or.inl rfl) H
    · have H := hf4 q
      refine hw_k (c := 0) (b := 0) (e := 1) (by decide +kernel) ?_
      exact hw_ret (a0 := 0) (e := 0) (by decide +kernel) (Or.inl rfl) H
  · have H := hf2 q
    refine hw_ld (b := 2) (e := 0) (by decide +kernel) rfl ?_
    refine hw_k (c := 0) (b := 0) (e := 1) (by decide +kernel) ?_
    refine hw_k (c := 1) (b := 0) (e := 1) (by decide +kernel) ?_
    refine hr_calls (b := 188) (e := 3) (nl := 3) (As := [(0, v2), (0, 0), (0, 1)]) (R := [(2, 192)]) (by decide +kernel) rfl rfl (Nat.le_of_ble_eq_true rfl) (Nat.le_of_ble_eq_true rfl) ?_
    refine hw_mono H ?_
    rintro r ψ19 y19 ⟨hyx, hψx, z19, hr, H⟩
    subst hyx
    subst hψx
    subst hr
    refine ⟨hne0, ?_⟩
    show hw sc (d + 2) 247 15 [(0, (2, 192)), (1, (0, v1)), (2, (0, v2))] [(0, z19), (2, 192)] φ y19 Q
    obtain ⟨hz20, ht20, hf20⟩ := H
    refine hw_if (a0 := 0) (b := 0) (e := 25) (by decide +kernel) hz20 (fun q => ?_) (fun q => ?_)
    · have H := ht20 q
      refine hw_k (c := 1) (b := 0) (e := 1) (by decide +kernel) ?_
      refine hw_goto (a0 := 0) (b := 0) (e := 30) (by decide +kernel) ?_
      refine hr_call (a0 := 22) (b := 203) (e := 2) (nl := 2) (As := [(0, 1)]) (R := []) 192 rfl (by decide +kernel) rfl rfl (Nat.le_of_ble_eq_true rfl) (Nat.le_of_ble_eq_true rfl) ?_
      refine hw_mono H ?_
      rintro r ψ21 y21 ⟨hyx, z21, hr, H⟩
      subst hyx
      subst hr
      refine ⟨hne0, ?_⟩
      show hw sc (d + 2) 247 33 [(0, (2, 192)), (1, (0, v1)), (2, (0, v2))] [(0, z21)] ψ21 y21 Q
      obtain ⟨hz22, ht22, hf22⟩ := H
      refine hw_if (a0 := 0) (b := 0) (e := 38) (by decide +kernel) hz22 (fun q => ?_) (fun q => ?_)
      · have H := ht22 q
        refine hw_ld (b := 2) (e := 0) (by decide +kernel) rfl ?_
        obtain ⟨hz23, ht23, hf23⟩ := H
        refine hw_if (a0 := 0) (b := 1) (e := 55) (by decide +kernel) hz23 (fun q => ?_) (fun q => ?_)
        · have H := ht23 q
          refine hw_ald (b := 0) (e := 0) (by decide +kernel) rfl (by decide) ?_
          refine hr_call (a0 := 22) (b := 213) (e := 1) (nl := 3) (As := []) (R := []) 192 rfl (by decide +kernel) rfl rfl (Nat.le_of_ble_eq_true rfl) (Nat.le_of_ble_eq_true rfl) ?_
          refine hw_mono H ?_
          rintro r ψ24 y24 ⟨hyx, hψx, z24, hr, H⟩
          subst hyx
          subst hψx
          subst hr
          refine ⟨hne0, ?_⟩
          show hw sc (d + 2) 247 59 [(0, (2, 192)), (1, (0, v1)), (2, (0, v2))] [(0, z24)] ψ21 y24 Q
          refine hw_ald (b := 0) (e := 0) (by decide +kernel) rfl (by decide) ?_
          refine hr_call (a0 := 22) (b := 213) (e := 1) (nl := 3) (As := []) (R := [(0, z24)]) 192 rfl (by decide +kernel) rfl rfl (Nat.le_of_ble_eq_true rfl) (Nat.le_of_ble_eq_true rfl) ?_
          refine hw_mono H ?_
          rintro r ψ25 y25 ⟨hyx, hψx, z25, hr, H⟩
          subst hyx
          subst hψx
          subst hr
          refine ⟨hne0, ?_⟩
          show hw sc (d + 2) 247 63 [(0, (2, 192)), (1, (0, v1)), (2, (0, v2))] [(0, z25), (0, z24)] ψ21 y25 Q
          refine hw_ald (b := 0) (e := 0) (by decide +kernel) rfl (by decide) ?_
          refine hr_gr (w := 194) (b := 12) (e := 6) 192 rfl (by decide +kernel) ?_
          refine hw_k (c := 166) (b := 2) (e := 3) (by decide +kernel) ?_
          refine hw_ld (b := 1) (e := 0) (by decide +kernel) rfl ?_
          refine hw_bin (w := 166 + v1) (a0 := 0) (b := 0) (e := 0) (by decide +kernel) rfl ?_
          obtain ⟨hl26, hu26, H⟩ := H
          refine hr_al (b := 0) (a0 := 0) (e := 0) (n := 361) (w := ψ21 194 ((166 + v1).toNat)) 194 rfl (by decide +kernel) (by decide) hl26 hu26 rfl ?_
          refine hr_calls (b := 243) (e := 2) (nl := 5) (As := [(0, z25), (0, ψ21 194 ((166 + v1).toNat))]) (R := [(0, z24)]) (by decide +kernel) rfl rfl (Nat.le_of_ble_eq_true rfl) (Nat.le_of_ble_eq_true rfl) ?_
          refine hw_mono H ?_
          rintro r ψ27 y27 ⟨hyx, hψx, z27, hr, H⟩
          subst hyx
          subst hψx
          subst hr
          refine ⟨hne0, ?_⟩
          show hw sc (d + 2) 247 76 [(0, (2, 192)), (1, (0, v1)), (2, (0, v2))] [(0, z27), (0, z24)] ψ21 y27 Q
          obtain ⟨hn28, H⟩ := H
          refine hw_bin (w := (jm_n z24).tdiv (jm_n z27)) (a0 := 0) (b := 9) (e := 0) (by decide +kernel) (hb_divn hn28) ?_
          exact hw_ret (a0 := 0) (e := 0) (by decide +kernel) (Or.inl rfl) H
        · have H := hf23 q
          refine hw_ald (b := 0) (e := 0) (by decide +kernel) rfl (by decide) ?_
          refine hr_gr (w := 194) (b := 12) (e := 6) 192 rfl (by decide +kernel) ?_
          refine hw_k (c := 166) (b := 2) (e := 3) (by decide +kernel) ?_
          refine hw_ld (b := 1) (e := 0) (by decide +kernel) rfl ?_
          refine hw_bin (w := 166 + v1) (a0 := 0) (b := 0) (e := 0) (by decide +kernel) rfl ?_
          obtain ⟨hl30, hu30, H⟩ := H
          refine hr_al (b := 0) (a0 := 0) (e := 0) (n := 361) (w := ψ21 194 ((166 + v1).toNat)) 194 rfl (by decide +kernel) (by decide) hl30 hu30 rfl ?_
          refine hw_goto (a0 := 0) (b := 0) (e := 59) (by decide +kernel) ?_
          refine hw_ald (b := 0) (e := 0) (by decide +kernel) rfl (by decide) ?_
          refine hr_call (a0 := 22) (b := 213) (e := 1) (nl := 3) (As := []) (R := [(0, ψ21 194 ((166 + v1).toNat))]) 192 rfl (by decide +kernel) rfl rfl (Nat.le_of_ble_eq_true rfl) (Nat.le_of_ble_eq_true rfl) ?_
          refine hw_mono H ?_
          rintro r ψ31 y31 ⟨hyx, hψx, z31, hr, H⟩
          subst hyx
          subst hψx
          subst hr
          refine ⟨hne0, ?_⟩
          show hw sc (d + 2) 247 63 [(0, (2, 192)), (1, (0, v1)), (2, (0, v2))] [(0, z31), (0, ψ21 194 ((166 + v1).toNat))] ψ21 y31 Q
          refine hw_ald (b := 0) (e := 0) (by decide +kernel) rfl (by decide) ?_
          refine hr_gr (w := 194) (b := 12) (e := 6) 192 rfl (by decide +kernel) ?_
          refine hw_k (c := 166) (b := 2) (e := 3) (by decide +kernel) ?_
          refine hw_ld (b := 1) (e := 0) (by decide +kernel) rfl ?_
          refine hw_bin (w := 166 + v1) (a0 := 0) (b := 0) (e := 0) (by decide +kernel) rfl ?_
          obtain ⟨hl32, hu32, H⟩ := H
          refine hr_al (b := 0) (a0 := 0) (e := 0) (n := 361) (w := ψ21 194 ((166 + v1).toNat)) 194 rfl (by decide +kernel) (by decide) hl32 hu32 rfl ?_
          refine hr_calls (b := 243) (e := 2) (nl := 5) (As := [(0, z31), (0, ψ21 194 ((166 + v1).toNat))]) (R := [(0, ψ21 194 ((166 + v1).toNat))]) (by decide +kernel) rfl rfl (Nat.le_of_ble_eq_true rfl) (Nat.le_of_ble_eq_true rfl) ?_
          refine hw_mono H ?_
          rintro r ψ33 y33 ⟨hyx, hψx, z33, hr, H⟩
          subst hyx
          subst hψx
          subst hr
          refine ⟨hne0, ?_⟩
          show hw sc (d + 2) 247 76 [(0, (2, 192)), (1, (0, v1)), (2, (0, v2))] [(0, z33), (0, ψ21 194 ((166 + v1).toNat))] ψ21 y33 Q
          obtain ⟨hn34, H⟩ := H
          refine hw_bin (w := (jm_n (ψ21 194 ((166 + v1).toNat))).tdiv (jm_n z33)) (a0 := 0) (b := 9) (e := 0) (by decide +kernel) (hb_divn hn34) ?_
          exact hw_ret (a0 := 0) (e := 0) (by decide +kernel) (Or.inl rfl) H
      · have H := hf22 q
        refine hw_k (c := 0) (b := 0) (e := 1) (by decide +kernel) ?_
        exact hw_ret (a0 := 0) (e := 0) (by decide +kernel) (Or.inl rfl) H
    · have H := hf20 q
      refine hw_ald (b := 0) (e := 0) (by decide +kernel) rfl (by decide) ?_
      refine hr_call (a0 := 22) (b := 213) (e := 1) (nl := 3) (As := []) (R := [(2, 192)]) 192 rfl (by decide +kernel) rfl rfl (Nat.le_of_ble_eq_true rfl) (Nat.le_of_ble_eq_true rfl) ?_
      refine hw_mono H ?_
      rintro r ψ37 y37 ⟨hyx, hψx, z37, hr, H⟩
      subst hyx
      subst hψx
      subst hr
      refine ⟨hne0, ?_⟩
      show hw sc (d + 2) 247 22 [(0, (2, 192)), (1, (0, v1)), (2, (0, v2))] [(0, z37), (2, 192)] φ y37 Q
      obtain ⟨ht38, hf38⟩ := H
      refine hw_ifn (a0 := 0) (b := 1) (e := 29) (by decide +kernel) (fun q => ?_) (fun q => ?_)
      · have H := ht38 q
        refine hw_k (c := 0) (b := 0) (e := 1) (by decide +kernel) ?_
        refine hr_call (a0 := 22) (b := 203) (e := 2) (nl := 2) (As := [(0, 0)]) (R := []) 192 rfl (by decide +kernel) rfl rfl (Nat.le_of_ble_eq_true rfl) (Nat.le_of_ble_eq_true rfl) ?_
        refine hw_mono H ?_
        rintro r ψ39 y39 ⟨hyx, z39, hr, H⟩
        subst hyx
        subst hr
        refine ⟨hne0, ?_⟩
        show hw sc (d + 2) 247 33 [(0, (2, 192)), (1, (0, v1)), (2, (0, v2))] [(0, z39)] ψ39 y39 Q
        obtain ⟨hz40, ht40, hf40⟩ := H
        refine hw_if (a0 := 0) (b := 0) (e := 38) (by decide +kernel) hz40 (fun q => ?_) (fun q => ?_)
        · have H := ht40 q
          refine hw_ld (b := 2) (e := 0) (by decide +kernel) rfl ?_
          obtain ⟨hz41, ht41, hf41⟩ := H
          refine hw_if (a0 := 0) (b := 1) (e := 55) (by decide +kernel) hz41 (fun q => ?_) (fun q => ?_)
          · have H := ht41 q
            refine hw_ald (b := 0) (e := 0) (by decide +kernel) rfl (by decide) ?_
            refine hr_call (a0 := 22) (b := 213) (e := 1) (nl := 3) (As := []) (R := []) 192 rfl (by decide +kernel) rfl rfl (Nat.le_of_ble_eq_true rfl) (Nat.le_of_ble_eq_true rfl) ?_
            refine hw_mono H ?_
            rintro r ψ42 y42 ⟨hyx, hψx, z42, hr, H⟩
            subst hyx
            subst hψx
            subst hr
            refine ⟨hne0, ?_⟩
            show hw sc (d + 2) 247 59 [(0, (2, 192)), (1, (0, v1)), (2, (0, v2))] [(0, z42)] ψ39 y42 Q
            refine hw_ald (b := 0) (e := 0) (by decide +kernel) rfl (by decide) ?_
            refine hr_call (a0 := 22) (b := 213) (e := 1) (nl := 3) (As := []) (R := [(0, z42)]) 192 rfl (by decide +kernel) rfl rfl (Nat.le_of_ble_eq_true rfl) (Nat.le_of_ble_eq_true rfl) ?_
            refine hw_mono H ?_
            rintro r ψ43 y43 ⟨hyx, hψx, z43, hr, H⟩
            subst hyx
            subst hψx
            subst hr
            refine ⟨hne0, ?_⟩
            show hw sc (d + 2) 247 63 [(0, (2, 192)), (1, (0, v1)), (2, (0, v2))] [(0, z43), (0, z42)] ψ39 y43 Q
            refine hw_ald (b := 0) (e := 0) (by decide +kernel) rfl (by decide) ?_
            refine hr_gr (w := 194) (b := 12) (e := 6) 192 rfl (by decide +kernel) ?_
            refine hw_k (c := 166) (b := 2) (e := 3) (by decide +kernel) ?_
            refine hw_ld (b := 1) (e := 0) (by decide +kernel) rfl ?_
            refine hw_bin (w := 166 + v1) (a0 := 0) (b := 0) (e := 0) (by decide +kernel) rfl ?_
            obtain ⟨hl44, hu44, H⟩ := H
            refine hr_al (b := 0) (a0 := 0) (e := 0) (n := 361) (w := ψ39 194 ((166 + v1).toNat)) 194 rfl (by decide +kernel) (by decide) hl44 hu44 rfl ?_
            refine hr_calls (b := 243) (e := 2) (nl := 5) (As := [(0, z43), (0, ψ39 194 ((166 + v1).toNat))]) (R := [(0, z42)]) (by decide +kernel) rfl rfl (Nat.le_of_ble_eq_true rfl) (Nat.le_of_ble_eq_true rfl) ?_
            refine hw_mono H ?_
            rintro r ψ45 y45 ⟨hyx, hψx, z45, hr, H⟩
            subst hyx
            subst hψx
            subst hr
            refine ⟨hne0, ?_⟩
            show hw sc (d + 2) 247 76 [(0, (2, 192)), (1, (0, v1)), (2, (0, v2))] [(0, z45), (0, z42)] ψ39 y45 Q
            obtain ⟨hn46, H⟩ := H
            refine hw_bin (w := (jm_n z42).tdiv (jm_n z45)) (a0 := 0) (b := 9) (e := 0) (by decide +kernel) (hb_divn hn46) ?_
            exact hw_ret (a0 := 0) (e := 0) (by decide +kernel) (Or.inl rfl) H
          · have H := hf41 q
            refine hw_ald (b := 0) (e := 0) (by decide +kernel) rfl (by decide) ?_
            refine hr_gr (w := 194) (b := 12) (e := 6) 192 rfl (by decide +kernel) ?_
            refine hw_k (c := 166) (b := 2) (e := 3) (by decide +kernel) ?_
            refine hw_ld (b := 1) (e := 0) (by decide +kernel) rfl ?_
            refine hw_bin (w := 166 + v1) (a0 := 0) (b := 0) (e := 0) (by decide +kernel) rfl ?_
            obtain ⟨hl48, hu48, H⟩ := H
            refine hr_al (b := 0) (a0 := 0) (e := 0) (n := 361) (w := ψ39 194 ((166 + v1).toNat)) 194 rfl (by decide +kernel) (by decide) hl48 hu48 rfl ?_
            refine hw_goto (a0 := 0) (b := 0) (e := 59) (by decide +kernel) ?_
            refine hw_ald (b := 0) (e := 0) (by decide +kernel) rfl (by decide) ?_
            refine hr_call (a0 := 22) (b := 213) (e := 1) (nl := 3) (As := []) (R := [(0, ψ39 194 ((166 + v1).toNat))]) 192 rfl (by decide +kernel) rfl rfl (Nat.le_of_ble_eq_true rfl) (Nat.le_of_ble_eq_true rfl) ?_
            refine hw_mono H ?_
            rintro r ψ49 y49 ⟨hyx, hψx, z49, hr, H⟩
            subst hyx
            subst hψx
            subst hr
            refine ⟨hne0, ?_⟩
            show hw sc (d + 2) 247 63 [(0, (2, 192)), (1, (0, v1)), (2, (0, v2))] [(0, z49), (0, ψ39 194 ((166 + v1).toNat))] ψ39 y49 Q
            refine hw_ald (b := 0) (e := 0) (by decide +kernel) rfl (by decide) ?_
            refine hr_gr (w := 194) (b := 12) (e := 6) 192 rfl (by decide +kernel) ?_
            refine hw_k (c := 166) (b := 2) (e := 3) (by decide +kernel) ?_
            refine hw_ld (b := 1) (e := 0) (by decide +kernel) rfl ?_
            refine hw_bin (w := 166 + v1) (a0 := 0) (b := 0) (e := 0) (by decide +kernel) rfl ?_
            obtain ⟨hl50, hu50, H⟩ := H
            refine hr_al (b := 0) (a0 := 0) (e := 0) (n := 361) (w := ψ39 194 ((166 + v1).toNat)) 194 rfl (by decide +kernel) (by decide) hl50 hu50 rfl ?_
            refine hr_calls (b := 243) (e := 2) (nl := 5) (As := [(0, z49), (0, ψ39 194 ((166 + v1).toNat))]) (R := [(0, ψ39 194 ((166 + v1).toNat))]) (by decide +kernel) rfl rfl (Nat.le_of_ble_eq_true rfl) (Nat.le_of_ble_eq_true rfl) ?_
            refine hw_mono H ?_
            rintro r ψ51 y51 ⟨hyx, hψx, z51, hr, H⟩
            subst hyx
            subst hψx
            subst hr
            refine ⟨hne0, ?_⟩
            show hw sc (d + 2) 247 76 [(0, (2, 192)), (1, (0, v1)), (2, (0, v2))] [(0, z51), (0, ψ39 194 ((166 + v1).toNat))] ψ39 y51 Q
            obtain ⟨hn52, H⟩ := H
            refine hw_bin (w := (jm_n (ψ39 194 ((166 + v1).toNat))).tdiv (jm_n z51)) (a0 := 0) (b := 9) (e := 0) (by decide +kernel) (hb_divn hn52) ?_
            exact hw_ret (a0 := 0) (e := 0) (by decide +kernel) (Or.inl rfl) H
        · have H := hf40 q
          refine hw_k (c := 0) (b := 0) (e := 1) (by decide +kernel) ?_
          exact hw_ret (a0 := 0) (e := 0) (by decide +kernel) (Or.inl rfl) H
      · have H := hf38 q
        refine hw_k (c := 1) (b := 0) (e := 1) (by decide +kernel) ?_
        refine hw_goto (a0 := 0) (b := 0) (e := 30) (by decide +kernel) ?_
        refine hr_call (a0 := 22) (b := 203) (e := 2) (nl := 2) (As := [(0, 1)]) (R := []) 192 rfl (by decide +kernel) rfl rfl (Nat.le_of_ble_eq_true rfl) (Nat.le_of_ble_eq_true rfl) ?_
        refine hw_mono H ?_
        rintro r ψ55 y55 ⟨hyx, z55, hr, H⟩
        subst hyx
        subst hr
        refine ⟨hne0, ?_⟩
        show hw sc (d + 2) 247 33 [(0, (2, 192)), (1, (0, v1)), (2, (0, v2))] [(0, z55)] ψ55 y55 Q
        obtain ⟨hz56, ht56, hf56⟩ := H
        refine hw_if (a0 := 0) (b := 0) (e := 38) (by decide +kernel) hz56 (fun q => ?_) (fun q => ?_)
        · have H := ht56 q
          refine hw_ld (b := 2) (e := 0) (by decide +kernel) rfl ?_
          obtain ⟨hz57, ht57, hf57⟩ := H
          refine hw_if (a0 := 0) (b := 1) (e := 55) (by decide +kernel) hz57 (fun q => ?_) (fun q => ?_)
          · have H := ht57 q
            refine hw_ald (b := 0) (e := 0) (by decide +kernel) rfl (by decide) ?_
            refine hr_call (a0 := 22) (b := 213) (e := 1) (nl := 3) (As := []) (R := []) 192 rfl (by decide +kernel) rfl rfl (Nat.le_of_ble_eq_true rfl) (Nat.le_of_ble_eq_true rfl) ?_
            refine hw_mono H ?_
            rintro r ψ58 y58 ⟨hyx, hψx, z58, hr, H⟩
            subst hyx
            subst hψx
            subst hr
            refine ⟨hne0, ?_⟩
            show hw sc (d + 2) 247 59 [(0, (2, 192)), (1, (0, v1)), (2, (0, v2))] [(0, z58)] ψ55 y58 Q
            refine hw_ald (b := 0) (e := 0) (by decide +kernel) rfl (by decide) ?_
            refine hr_call (a0 := 22) (b := 213) (e := 1) (nl := 3) (As := []) (R := [(0, z58)]) 192 rfl (by decide +kernel) rfl rfl (Nat.le_of_ble_eq_true rfl) (Nat.le_of_ble_eq_true rfl) ?_
            refine hw_mono H ?_
            rintro r ψ59 y59 ⟨hyx, hψx, z59, hr, H⟩
            subst hyx
            subst hψx
            subst hr
            refine ⟨hne0, ?_⟩
            show hw sc (d + 2) 247 63 [(0, (2, 192)), (1, (0, v1)), (2, (0, v2))] [(0, z59), (0, z58)] ψ55 y59 Q
            refine hw_ald (b := 0) (e := 0) (by decide +kernel) rfl (by decide) ?_
            refine hr_gr (w := 194) (b := 12) (e := 6) 192 rfl (by decide +kernel) ?_
            refine hw_k (c := 166) (b := 2) (e := 3) (by decide +kernel) ?_
            refine hw_ld (b := 1) (e := 0) (by decide +kernel) rfl ?_
            refine hw_bin (w := 166 + v1) (a0 := 0) (b := 0) (e := 0) (by decide +kernel) rfl ?_
            obtain ⟨hl60, hu60, H⟩ := H
            refine hr_al (b := 0) (a0 := 0) (e := 0) (n := 361) (w := ψ55 194 ((166 + v1).toNat)) 194 rfl (by decide +kernel) (by decide) hl60 hu60 rfl ?_
            refine hr_calls (b := 243) (e := 2) (nl := 5) (As := [(0, z59), (0, ψ55 194 ((166 + v1).toNat))]) (R := [(0, z58)]) (by decide +kernel) rfl rfl (Nat.le_of_ble_eq_true rfl) (Nat.le_of_ble_eq_true rfl) ?_
            refine hw_mono H ?_
            rintro r ψ61 y61 ⟨hyx, hψx, z61, hr, H⟩
            subst hyx
            subst hψx
            subst hr
            refine ⟨hne0, ?_⟩
            show hw sc (d + 2) 247 76 [(0, (2, 192)), (1, (0, v1)), (2, (0, v2))] [(0, z61), (0, z58)] ψ55 y61 Q
            obtain ⟨hn62, H⟩ := H
            refine hw_bin (w := (jm_n z58).tdiv (jm_n z61)) (a0 := 0) (b := 9) (e := 0) (by decide +kernel) (hb_divn hn62) ?_
            exact hw_ret (a0 := 0) (e := 0) (by decide +kernel) (Or.inl rfl) H
          · have H := hf57 q
            refine hw_ald (b := 0) (e := 0) (by decide +kernel) rfl (by decide) ?_
            refine hr_gr (w := 194) (b := 12) (e := 6) 192 rfl (by decide +kernel) ?_
            refine hw_k (c := 166) (b := 2) (e := 3) (by decide +kernel) ?_
            refine hw_ld (b := 1) (e := 0) (by decide +kernel) rfl ?_
            refine hw_bin (w := 166 + v1) (a0 := 0) (b := 0) (e := 0) (by decide +kernel) rfl ?_
            obtain ⟨hl64, hu64, H⟩ := H
            refine hr_al (b := 0) (a0 := 0) (e := 0) (n := 361) (w := ψ55 194 ((166 + v1).toNat)) 194 rfl (by decide +kernel) (by decide) hl64 hu64 rfl ?_
            refine hw_goto (a0 := 0) (b := 0) (e := 59) (by decide +kernel) ?_
            refine hw_ald (b := 0) (e := 0) (by decide +kernel) rfl (by decide) ?_
            refine hr_call (a0 := 22) (b := 213) (e := 1) (nl := 3) (As := []) (R := [(0, ψ55 194 ((166 + v1).toNat))]) 192 rfl (by decide +kernel) rfl rfl (Nat.le_of_ble_eq_true rfl) (Nat.le_of_ble_eq_true rfl) ?_
            refine hw_mono H ?_
            rintro r ψ65 y65 ⟨hyx, hψx, z65, hr, H⟩
            subst hyx
            subst hψx
            subst hr
            refine ⟨hne0, ?_⟩
            show hw sc (d + 2) 247 63 [(0, (2, 192)), (1, (0, v1)), (2, (0, v2))] [(0, z65), (0, ψ55 194 ((166 + v1).toNat))] ψ55 y65 Q
            refine hw_ald (b := 0) (e := 0) (by decide +kernel) rfl (by decide) ?_
            refine hr_gr (w := 194) (b := 12) (e := 6) 192 rfl (by decide +kernel) ?_
            refine hw_k (c := 166) (b := 2) (e := 3) (by decide +kernel) ?_
            refine hw_ld (b := 1) (e := 0) (by decide +kernel) rfl ?_
            refine hw_bin (w := 166 + v1) (a0 := 0) (b := 0) (e := 0) (by decide +kernel) rfl ?_
            obtain ⟨hl66, hu66, H⟩ := H
            refine hr_al (b := 0) (a0 := 0) (e := 0) (n := 361) (w := ψ55 194 ((166 + v1).toNat)) 194 rfl (by decide +kernel) (by decide) hl66 hu66 rfl ?_
            refine hr_calls (b := 243) (e := 2) (nl := 5) (As := [(0, z65), (0, ψ55 194 ((166 + v1).toNat))]) (R := [(0, ψ55 194 ((166 + v1).toNat))]) (by decide +kernel) rfl rfl (Nat.le_of_ble_eq_true rfl) (Nat.le_of_ble_eq_true rfl) ?_
            refine hw_mono H ?_
            rintro r ψ67 y67 ⟨hyx, hψx, z67, hr, H⟩
            subst hyx
            subst hψx
            subst hr
            refine ⟨hne0, ?_⟩
            show hw sc (d + 2) 247 76 [(0, (2, 192)), (1, (0, v1)), (2, (0, v2))] [(0, z67), (0, ψ55 194 ((166 + v1).toNat))] ψ55 y67 Q
            obtain ⟨hn68, H⟩ := H
            refine hw_bin (w := (jm_n (ψ55 194 ((166 + v1).toNat))).tdiv (jm_n z67)) (a0 := 0) (b := 9) (e := 0) (by decide +kernel) (hb_divn hn68) ?_
            exact hw_ret (a0 := 0) (e := 0) (by decide +kernel) (Or.inl rfl) H
        · have H := hf56 q
          refine hw_k (c := 0) (b := 0) (e := 1) (by decide +kernel) ?_
          exact hw_ret (a0 := 0) (e := 0) (by decide +kernel) (Or.inl rfl) H
theorem sf_247_192 {sc : List Int} {d : Nat} {φ : hf_F} {x : Nat} {Q : Option jm_V → hf_F → Nat → Prop} {v1 v2 : Int} (hI : Inv φ) (h1a : (-2147483648 : Int) ≤ v1) (h1b : v1 ≤ 2147483647) (h2a : (-2147483648 : Int) ≤ v2) (h2b : v2 ≤ 2147483647) (hQ : ∀ (r : Int) (ψ : hf_F), Inv ψ → Fr [193000] φ ψ → True → F_RideLawsModel_part_192 φ v1 v2 = (r, ψ) → Q (some (0, r)) ψ x) : hw sc (d + 2) 247 0 [(0, (2, 192)), (1, (0, v1)), (2, (0, v2))] [] φ x Q := by
  apply sf_247_192_v
  have e0 : F_RideLawsModel_part_192 φ v1 v2 = _ := rfl
  refine sf_202_192 (φ := φ) hI (by omega) (by omega) (fun z1 hp1 hE1 => ⟨rfl, rfl, z1, rfl, ?_⟩)
  have e1 := e0.trans (bnp_e hE1)
  have f1 := iv_at (a := 194) (k := 3) (lo := 0) (u := 6) hI (by decide +kernel)
  refine ⟨by unfold hi; omega, fun q2 => ?_, fun q2 => ?_⟩
  · skip
    have e2a := e1.trans (if_pos q2)
    refine sf_203_192 (φ := φ) hI (by omega) (by omega) (fun z3 ψ3 hI3 hF3 hp3 hE3 => ⟨rfl, z3, rfl, ?_⟩)
    have hG3 : Fr [193000] φ ψ3 := fr_tr (fr_rf) hF3 (by decide)
    have e3 := e2a.trans (bnd_e hE3)
    refine ⟨by unfold hi; omega, fun q4 => ?_, fun q4 => ?_⟩
    · skip
      have e4a := e3.trans (if_pos q4)
      refine ⟨by unfold hi; omega, fun q5 => ?_, fun q5 => ?_⟩
      · skip
        have e5a := e4a.trans (if_pos q5)
        refine sf_213_192 (φ := ψ3) hI3  (fun z6 hp6 hE6 => ⟨rfl, rfl, z6, rfl, ?_⟩)
        have e6 := e5a.trans (bnp_e hE6)
        have f2 := congrArg jm_n hp6.2
        have f3 := congrArg jm_n (sxa_c hF3 (by decide))
        refine sf_213_192 (φ := ψ3) hI3  (fun z7 hp7 hE7 => ⟨rfl, rfl, z7, rfl, ?_⟩)
        have e7 := e6.trans (bnp_e hE7)
        have f4 := congrArg jm_n hp7.2
        refine ⟨by omega, by omega, ?_⟩
        have f5 : ψ3 194 ((166 + v1).toNat) = φ 194 ((166 + v1).toNat) := (fr_at hF3 194 (by decide) ((166 + v1).toNat))
        refine sf_243 (φ := ψ3) hI3 (by omega) (fun z9 hp9 hE9 => ⟨rfl, rfl, z9, rfl, ?_⟩)
        have e9 := e7.trans (bnp_e hE9)
        have f6 := hr_n z9
        have f7 := hr_n z6
        refine ⟨by omega, ?_⟩
        exact hQ ((jm_n z6).tdiv (jm_n z9)) ψ3 hI3 hG3 trivial e9
      · skip
        have e5b := e4a.trans (if_neg q5)
        refine ⟨by omega, by omega, ?_⟩
        have f8 : ψ3 194 ((166 + v1).toNat) = φ 194 ((166 + v1).toNat) := (fr_at hF3 194 (by decide) ((166 + v1).toNat))
        refine sf_213_192 (φ := ψ3) hI3  (fun z13 hp13 hE13 => ⟨rfl, rfl, z13, rfl, ?_⟩)
        have e13 := e5b.trans (bnp_e hE13)
        have f9 := congrArg jm_n hp13.2
        have f10 := congrArg jm_n (sxa_c hF3 (by decide))
        refine ⟨by omega, by omega, ?_⟩
        refine sf_243 (φ := ψ3) hI3 (by omega) (fun z15 hp15 hE15 => ⟨rfl, rfl, z15, rfl, ?_⟩)
        have e15 := e13.trans (bnp_e hE15)
        have f11 := hr_n z15
        have f12 := hr_n (ψ3 194 ((166 + v1).toNat))
        refine ⟨by omega, ?_⟩
        exact hQ ((jm_n (ψ3 194 ((166 + v1).toNat))).tdiv (jm_n z15)) ψ3 hI3 hG3 trivial e15
    · skip
      have e4b := e3.trans (if_neg q4)
      exact hQ 0 ψ3 hI3 hG3 trivial e4b
  · skip
    have e2b := e1.trans (if_neg q2)
    refine sf_188 (φ := φ) hI (by omega) (by omega) (by omega) (by omega) (by omega) (by omega) (fun z19 hp19 hE19 => ⟨rfl, rfl, z19, rfl, ?_⟩)
    have e19 := e2b.trans (bnp_e hE19)
    refine ⟨by unfold hi; omega, fun q20 => ?_, fun q20 => ?_⟩
    · skip
      have e20a := e19.trans (if_pos q20)
      refine sf_203_192 (φ := φ) hI (by omega) (by omega) (fun z21 ψ21 hI21 hF21 hp21 hE21 => ⟨rfl, z21, rfl, ?_⟩)
      have hG21 : Fr [193000] φ ψ21 := fr_tr (fr_rf) hF21 (by decide)
      have e21 := e20a.trans (bnd_e hE21)
      refine ⟨by unfold hi; omega, fun q22 => ?_, fun q22 => ?_⟩
      · skip
        have e22a := e21.trans (if_pos q22)
        refine ⟨by unfold hi; omega, fun q23 => ?_, fun q23 => ?_⟩
        · skip
          have e23a := e22a.trans (if_pos q23)
          refine sf_213_192 (φ := ψ21) hI21  (fun z24 hp24 hE24 => ⟨rfl, rfl, z24, rfl, ?_⟩)
          have e24 := e23a.trans (bnp_e hE24)
          have f13 := congrArg jm_n hp24.2
          have f14 := congrArg jm_n (sxa_c hF21 (by decide))
          refine sf_213_192 (φ := ψ21) hI21  (fun z25 hp25 hE25 => ⟨rfl, rfl, z25, rfl, ?_⟩)
          have e25 := e24.trans (bnp_e hE25)
          have f15 := congrArg jm_n hp25.2
          refine ⟨by omega, by omega, ?_⟩
          have f16 : ψ21 194 ((166 + v1).toNat) = φ 194 ((166 + v1).toNat) := (fr_at hF21 194 (by decide) ((166 + v1).toNat))
          refine sf_243 (φ := ψ21) hI21 (by omega) (fun z27 hp27 hE27 => ⟨rfl, rfl, z27, rfl, ?_⟩)
          have e27 := e25.trans (bnp_e hE27)
          have f17 := hr_n z27
          have f18 := hr_n z24
          refine ⟨by omega, ?_⟩
          exact hQ ((jm_n z24).tdiv (jm_n z27)) ψ21 hI21 hG21 trivial e27
        · skip
          have e23b := e22a.trans (if_neg q23)
          refine ⟨by omega, by omega, ?_⟩
          have f19 : ψ21 194 ((166 + v1).toNat) = φ 194 ((166 + v1).toNat) := (fr_at hF21 194 (by decide) ((166 + v1).toNat))
          refine sf_213_192 (φ := ψ21) hI21  (fun z31 hp31 hE31 => ⟨rfl, rfl, z31, rfl, ?_⟩)
          have e31 := e23b.trans (bnp_e hE31)
          have f20 := congrArg jm_n hp31.2
          have f21 := congrArg jm_n (sxa_c hF21 (by decide))
          refine ⟨by omega, by omega, ?_⟩
          refine sf_243 (φ := ψ21) hI21 (by omega) (fun z33 hp33 hE33 => ⟨rfl, rfl, z33, rfl, ?_⟩)
          have e33 := e31.trans (bnp_e hE33)
          have f22 := hr_n z33
          have f23 := hr_n (ψ21 194 ((166 + v1).toNat))
          refine ⟨by omega, ?_⟩
          exact hQ ((jm_n (ψ21 194 ((166 + v1).toNat))).tdiv (jm_n z33)) ψ21 hI21 hG21 trivial e33
      · skip
        have e22b := e21.trans (if_neg q22)
        exact hQ 0 ψ21 hI21 hG21 trivial e22b
    · skip
      have e20b := e19.trans (if_neg q20)
      refine sf_213_192 (φ := φ) hI  (fun z37 hp37 hE37 => ⟨rfl, rfl, z37, rfl, ?_⟩)
      have e37 := e20b.trans (bnp_e hE37)
      have f24 := congrArg jm_n hp37.2
      have f25 := hr_n z37
      refine ⟨fun q38 => ?_, fun q38 => ?_⟩
      · skip
        have e38a := e37.trans (if_pos q38)
        refine sf_203_192 (φ := φ) hI (by omega) (by omega) (fun z39 ψ39 hI39 hF39 hp39 hE39 => ⟨rfl, z39, rfl, ?_⟩)
        have hG39 : Fr [193000] φ ψ39 := fr_tr (fr_rf) hF39 (by decide)
        have e39 := e38a.trans (bnd_e hE39)
        refine ⟨by unfold hi; omega, fun q40 => ?_, fun q40 => ?_⟩
        · skip
          have e40a := e39.trans (if_pos q40)
          refine ⟨by unfold hi; omega, fun q41 => ?_, fun q41 => ?_⟩
          · skip
            have e41a := e40a.trans (if_pos q41)
            refine sf_213_192 (φ := ψ39) hI39  (fun z42 hp42 hE42 => ⟨rfl, rfl, z42, rfl, ?_⟩)
            have e42 := e41a.trans (bnp_e hE42)
            have f26 := congrArg jm_n hp42.2
            have f27 := congrArg jm_n (sxa_c hF39 (by decide))
            refine sf_213_192 (φ := ψ39) hI39  (fun z43 hp43 hE43 => ⟨rfl, rfl, z43, rfl, ?_⟩)
            have e43 := e42.trans (bnp_e hE43)
            have f28 := congrArg jm_n hp43.2
            refine ⟨by omega, by omega, ?_⟩
            have f29 : ψ39 194 ((166 + v1).toNat) = φ 194 ((166 + v1).toNat) := (fr_at hF39 194 (by decide) ((166 + v1).toNat))
            refine sf_243 (φ := ψ39) hI39 (by omega) (fun z45 hp45 hE45 => ⟨rfl, rfl, z45, rfl, ?_⟩)
            have e45 := e43.trans (bnp_e hE45)
            have f30 := hr_n z45
            have f31 := hr_n z42
            refine ⟨by omega, ?_⟩
            exact hQ ((jm_n z42).tdiv (jm_n z45)) ψ39 hI39 hG39 trivial e45
          · skip
            have e41b := e40a.trans (if_neg q41)
            refine ⟨by omega, by omega, ?_⟩
            have f32 : ψ39 194 ((166 + v1).toNat) = φ 194 ((166 + v1).toNat) := (fr_at hF39 194 (by decide) ((166 + v1).toNat))
            refine sf_213_192 (φ := ψ39) hI39  (fun z49 hp49 hE49 => ⟨rfl, rfl, z49, rfl, ?_⟩)
            have e49 := e41b.trans (bnp_e hE49)
            have f33 := congrArg jm_n hp49.2
            have f34 := congrArg jm_n (sxa_c hF39 (by decide))
            refine ⟨by omega, by omega, ?_⟩
            refine sf_243 (φ := ψ39) hI39 (by omega) (fun z51 hp51 hE51 => ⟨rfl, rfl, z51, rfl, ?_⟩)
            have e51 := e49.trans (bnp_e hE51)
            have f35 := hr_n z51
            have f36 := hr_n (ψ39 194 ((166 + v1).toNat))
            refine ⟨by omega, ?_⟩
            exact hQ ((jm_n (ψ39 194 ((166 + v1).toNat))).tdiv (jm_n z51)) ψ39 hI39 hG39 trivial e51
        · skip
          have e40b := e39.trans (if_neg q40)
          exact hQ 0 ψ39 hI39 hG39 trivial e40b
      · skip
        have e38b := e37.trans (if_neg q38)
        refine sf_203_192 (φ := φ) hI (by omega) (by omega) (fun z55 ψ55 hI55 hF55 hp55 hE55 => ⟨rfl, z55, rfl, ?_⟩)
        have hG55 : Fr [193000] φ ψ55 := fr_tr (fr_rf) hF55 (by decide)
        have e55 := e38b.trans (bnd_e hE55)
        refine ⟨by unfold hi; omega, fun q56 => ?_, fun q56 => ?_⟩
        · skip
          have e56a := e55.trans (if_pos q56)
          refine ⟨by unfold hi; omega, fun q57 => ?_, fun q57 => ?_⟩
          · skip
            have e57a := e56a.trans (if_pos q57)
            refine sf_213_192 (φ := ψ55) hI55  (fun z58 hp58 hE58 => ⟨rfl, rfl, z58, rfl, ?_⟩)
            have e58 := e57a.trans (bnp_e hE58)
            have f37 := congrArg jm_n hp58.2
            have f38 := congrArg jm_n (sxa_c hF55 (by decide))
            refine sf_213_192 (φ := ψ55) hI55  (fun z59 hp59 hE59 => ⟨rfl, rfl, z59, rfl, ?_⟩)
            have e59 := e58.trans (bnp_e hE59)
            have f39 := congrArg jm_n hp59.2
            refine ⟨by omega, by omega, ?_⟩
            have f40 : ψ55 194 ((166 + v1).toNat) = φ 194 ((166 + v1).toNat) := (fr_at hF55 194 (by decide) ((166 + v1).toNat))
            refine sf_243 (φ := ψ55) hI55 (by omega) (fun z61 hp61 hE61 => ⟨rfl, rfl, z61, rfl, ?_⟩)
            have e61 := e59.trans (bnp_e hE61)
            have f41 := hr_n z61
            have f42 := hr_n z58
            refine ⟨by omega, ?_⟩
            exact hQ ((jm_n z58).tdiv (jm_n z61)) ψ55 hI55 hG55 trivial e61
          · skip
            have e57b := e56a.trans (if_neg q57)
            refine ⟨by omega, by omega, ?_⟩
            have f43 : ψ55 194 ((166 + v1).toNat) = φ 194 ((166 + v1).toNat) := (fr_at hF55 194 (by decide) ((166 + v1).toNat))
            refine sf_213_192 (φ := ψ55) hI55  (fun z65 hp65 hE65 => ⟨rfl, rfl, z65, rfl, ?_⟩)
            have e65 := e57b.trans (bnp_e hE65)
            have f44 := congrArg jm_n hp65.2
            have f45 := congrArg jm_n (sxa_c hF55 (by decide))
            refine ⟨by omega, by omega, ?_⟩
            refine sf_243 (φ := ψ55) hI55 (by omega) (fun z67 hp67 hE67 => ⟨rfl, rfl, z67, rfl, ?_⟩)
            have e67 := e65.trans (bnp_e hE67)
            have f46 := hr_n z67
            have f47 := hr_n (ψ55 194 ((166 + v1).toNat))
            refine ⟨by omega, ?_⟩
            exact hQ ((jm_n (ψ55 194 ((166 + v1).toNat))).tdiv (jm_n z67)) ψ55 hI55 hG55 trivial e67
        · skip
          have e56b := e55.trans (if_neg q56)
          exact hQ 0 ψ55 hI55 hG55 trivial e56b
theorem sf_248_192_v9 {sc : List Int} {d : Nat} {φ : hf_F} {x : Nat} {Q : Option jm_V → hf_F → Nat → Prop} {L : jm_L} {l1 l2 : Int} (g0 : jm_get L 0 = some (2, 192)) (g1 : jm_get L 1 = some (0, l1)) (g2 : jm_get L 2 = some (0, l2))
    (H : hi l2 ∧ hi (φ 194 3) ∧ ((φ 194 3) ≤ l2 → Q (some (0, l1)) φ x) ∧ (¬ (φ 194 3) ≤ l2 → 0 ≤ (166 + l2) ∧ (166 + l2) < 361 ∧ (((jm_n (φ 194 ((166 + l2).toNat))) ≤ 0 → hw sc d 248 9 (jm_st1 L 2 (0, l2 + 1)) [] φ x Q) ∧ (¬ (jm_n (φ 194 ((166 + l2).toNat))) ≤ 0 → hi l1 ∧ (l1 < 0 → hw sc d 248 9 (jm_st1 (jm_st1 L 1 (0, l2)) 2 (0, l2 + 1)) [] φ x Q) ∧ (¬ l1 < 0 → 0 ≤ (166 + l2) ∧ (166 + l2) < 361 ∧ (0 ≤ (166 + l1) ∧ (166 + l1) < 361 ∧ (((jm_n (φ 194 ((166 + l2).toNat))) ≤ (jm_n (φ 194 ((166 + l1).toNat))) → hw sc d 248 9 (jm_st1 L 2 (0, l2 + 1)) [] φ x Q) ∧ (¬ (jm_n (φ 194 ((166 + l2).toNat))) ≤ (jm_n (φ 194 ((166 + l1).toNat))) → hw sc d 248 9 (jm_st1 (jm_st1 L 1 (0, l2)) 2 (0, l2 + 1)) [] φ x Q)))))))) :
    hw sc d 248 9 L [] φ x Q := by
  refine hw_ld (b := 2) (e := 0) (by decide +kernel) g2 ?_
  refine hw_ald (b := 0) (e := 0) (by decide +kernel) g0 (by decide) ?_
  refine hr_gr (w := 194) (b := 12) (e := 6) 192 rfl (by decide +kernel) ?_
  refine hw_k (c := 3) (b := 0) (e := 1) (by decide +kernel) ?_
  refine hr_al (b := 0) (a0 := 0) (e := 0) (n := 361) (w := φ 194 3) 194 rfl (by decide +kernel) (by decide) (by decide) (by decide) rfl ?_
  obtain ⟨hz1, hy1, ht1, hf1⟩ := H
  refine hw_if2 (a0 := 0) (b := 3) (e := 67) (by decide +kernel) hz1 hy1 (fun q => ?_) (fun q => ?_)
  · have H := ht1 q
    refine hw_ld (b := 1) (e := 0) (by decide +kernel) g1 ?_
    exact hw_ret (a0 := 0) (e := 0) (by decide +kernel) (Or.inl rfl) H
  · have H := hf1 q
    refine hw_ald (b := 0) (e := 0) (by decide +kernel) g0 (by decide) ?_
    refine hr_gr (w := 194) (b := 12) (e := 6) 192 rfl (by decide +kernel) ?_
    refine hw_k (c := 166) (b := 2) (e := 3) (by decide +kernel) ?_
    refine hw_ld (b := 2) (e := 0) (by decide +kernel) g2 ?_
    refine hw_bin (w := 166 + l2) (a0 := 0) (b := 0) (e := 0) (by decide +kernel) rfl ?_
    obtain ⟨hl3, hu3, H⟩ := H
    refine hr_al (b := 0) (a0 := 0) (e := 0) (n := 361) (w := φ 194 ((166 + l2).toNat)) 194 rfl (by decide +kernel) (by decide) hl3 hu3 rfl ?_
    obtain ⟨ht4, hf4⟩ := H
    refine hw_ifn (a0 := 0) (b := 5) (e := 61) (by decide +kernel) (fun q => ?_) (fun q => ?_)
    · have H := ht4 q
      refine hw_inc (L' := (jm_st1 L 2 (0, l2 + 1))) (c := 1) (b := 2) (e := 0) (by decide +kernel) g2 rfl ?_
      refine hw_goto (a0 := 0) (b := 0) (e := 9) (by decide +kernel) ?_
      exact H
    · have H := hf4 q
      refine hw_ld (b := 1) (e := 0) (by decide +kernel) g1 ?_
      obtain ⟨hz5, ht5, hf5⟩ := H
      refine hw_if (a0 := 0) (b := 2) (e := 59) (by decide +kernel) hz5 (fun q => ?_) (fun q => ?_)
      · have H := ht5 q
        refine hw_ld (b := 2) (e := 0) (by decide +kernel) g2 ?_
        refine hw_st (L' := (jm_st1 L 1 (0, l2))) (b := 1) (e := 0) (by decide +kernel) rfl ?_
        refine hw_inc (L' := (jm_st1 (jm_st1 L 1 (0, l2)) 2 (0, l2 + 1))) (c := 1) (b := 2) (e := 0) (by decide +kernel) (get_st1 g2 (by decide) (fun q => absurd q.1 (by decide))) rfl ?_
        refine hw_goto (a0 := 0) (b := 0) (e := 9) (by decide +kernel) ?_
        exact H
      · have H := hf5 q
        refine hw_ald (b := 0) (e := 0) (by decide +kernel) g0 (by decide) ?_
        refine hr_gr (w := 194) (b := 12) (e := 6) 192 rfl (by decide +kernel) ?_
        refine hw_k (c := 166) (b := 2) (e := 3) (by decide +kernel) ?_
        refine hw_ld (b := 2) (e := 0) (by decide +kernel) g2 ?_
        refine hw_bin (w := 166 + l2) (a0 := 0) (b := 0) (e := 0) (by decide +kernel) rfl ?_
        obtain ⟨hl6, hu6, H⟩ := H
        refine hr_al (b := 0) (a0 := 0) (e := 0) (n := 361) (w := φ 194 ((166 + l2).toNat)) 194 rfl (by decide +kernel) (by decide) hl6 hu6 rfl ?_
        refine hw_ald (b := 0) (e := 0) (by decide +kernel) g0 (by decide) ?_
        refine hr_gr (w := 194) (b := 12) (e := 6) 192 rfl (by decide +kernel) ?_
        refine hw_k (c := 166) (b := 2) (e := 3) (by decide +kernel) ?_
        refine hw_ld (b := 1) (e := 0) (by decide +kernel) g1 ?_
        refine hw_bin (w := 166 + l1) (a0 := 0) (b := 0) (e := 0) (by decide +kernel) rfl ?_
        obtain ⟨hl7, hu7, H⟩ := H
        refine hr_al (b := 0) (a0 := 0) (e := 0) (n := 361) (w := φ 194 ((166 + l1).toNat)) 194 rfl (by decide +kernel) (by decide) hl7 hu7 rfl ?_
        obtain ⟨ht8, hf8⟩ := H
        refine hw_if2n (a0 := 0) (b := 5) (e := 61) (by decide +kernel) (fun q => ?_) (fun q => ?_)
        · have H := ht8 q
          refine hw_inc (L' := (jm_st1 L 2 (0, l2 + 1))) (c := 1) (b := 2) (e := 0) (by decide +kernel) g2 rfl ?_
          refine hw_goto (a0 := 0) (b := 0) (e := 9) (by decide +kernel) ?_
          exact H
        · have H := hf8 q
          refine hw_ld (b := 2) (e := 0) (by decide +kernel) g2 ?_
          refine hw_st (L' := (jm_st1 L 1 (0, l2))) (b := 1) (e := 0) (by decide +kernel) rfl ?_
          refine hw_inc (L' := (jm_st1 (jm_st1 L 1 (0, l2)) 2 (0, l2 + 1))) (c := 1) (b := 2) (e := 0) (by decide +kernel) (get_st1 g2 (by decide) (fun q => absurd q.1 (by decide))) rfl ?_
          refine hw_goto (a0 := 0) (b := 0) (e := 9) (by decide +kernel) ?_
          exact H
theorem sf_248_192_l9 {sc : List Int} {d x : Nat} {Q : Option jm_V → hf_F → Nat → Prop} : ∀ (n : Nat) (φ : hf_F) (L : jm_L) (l1 l2 : Int), jm_get L 0 = some (2, 192) → jm_get L 1 = some (0, l1) → jm_get L 2 = some (0, l2) → Inv φ → 6 - l2 < (n : Int) → (-1 : Int) ≤ l1 → l1 ≤ 5 → 0 ≤ l2 → l2 ≤ 6 → (∀ (r : Int) (ψ : hf_F), Inv ψ → Fr [193000] φ ψ → True → F_RideLawsModel_most_192_l9 n φ l1 l2 = (r, ψ) → Q (some (0, r)) ψ x) → hw sc d 248 9 L [] φ x Q := by
  intro n
  induction n with
  | zero =>
    intro φ L l1 l2 g0 g1 g2 hI hM b1a b1b b2a b2b hQ
    exfalso
    omega
  | succ n ih =>
    intro φ L l1 l2 g0 g1 g2 hI hM b1a b1b b2a b2b hQ
    refine sf_248_192_v9 g0 g1 g2 ?_
    have e0 := F_RideLawsModel_most_192_l9_s (φ := φ) (l1 := l1) (l2 := l2) n
    have f1 := iv_at (a := 194) (k := 3) (lo := 0) (u := 6) hI (by decide +kernel)
    refine ⟨by unfold hi; omega, by unfold hi; omega, fun q1 => ?_, fun q1 => ?_⟩
    · skip
      have e1a := e0.trans (if_pos q1)
      exact hQ l1 φ hI (fr_rf) trivial e1a
    · skip
      have e1b := e0.trans (if_neg q1)
      refine ⟨by omega, by omega, ?_⟩
      have f2 := hr_n (φ 194 ((166 + l2).toNat))
      refine ⟨fun q4 => ?_, fun q4 => ?_⟩
      · skip
        have e4a := e1b.trans (if_pos q4)
        exact ih φ (jm_st1 L 2 (0, l2 + 1)) l1 (l2 + 1) (get_st1 g0 (by decide) (fun q => absurd q.1 (by decide))) (get_st1 g1 (by decide) (fun q => tg0 q.2)) get_st1e hI (by omega) (by omega) (by omega) (by omega) (by omega) (fun rr χ hIχ hFχ hpχ hEχ => hQ rr χ hIχ (fr_tr (fr_rf) hFχ (by decide)) hpχ (e4a.trans hEχ))
      · skip
        have e4b := e1b.trans (if_neg q4)
        refine ⟨by unfold hi; omega, fun q5 => ?_, fun q5 => ?_⟩
        · skip
          have e5a := e4b.trans (if_pos q5)
          exact ih φ (jm_st1 (jm_st1 L 1 (0, l2)) 2 (0, l2 + 1)) l2 (l2 + 1) (get_st1 (get_st1 g0 (by decide) (fun q => tg2 q.2)) (by decide) (fun q => absurd q.1 (by decide))) (get_st1 get_st1e (by decide) (fun q => tg0 q.2)) get_st1e hI (by omega) (by omega) (by omega) (by omega) (by omega) (fun rr χ hIχ hFχ hpχ hEχ => hQ rr χ hIχ (fr_tr (fr_rf) hFχ (by decide)) hpχ (e5a.trans hEχ))
        · skip
          have e5b := e4b.trans (if_neg q5)
          refine ⟨by omega, by omega, ?_⟩
          refine ⟨by omega, by omega, ?_⟩
          have f3 := hr_n (φ 194 ((166 + l1).toNat))
          refine ⟨fun q8 => ?_, fun q8 => ?_⟩
          · skip
            have e8a := e5b.trans (if_pos q8)
            exact ih φ (jm_st1 L 2 (0, l2 + 1)) l1 (l2 + 1) (get_st1 g0 (by decide) (fun q => absurd q.1 (by decide))) (get_st1 g1 (by decide) (fun q => tg0 q.2)) get_st1e hI (by omega) (by omega) (by omega) (by omega) (by omega) (fun rr χ hIχ hFχ hpχ hEχ => hQ rr χ hIχ (fr_tr (fr_rf) hFχ (by decide)) hpχ (e8a.trans hEχ))
          · skip
            have e8b := e5b.trans (if_neg q8)
            exact ih φ (jm_st1 (jm_st1 L 1 (0, l2)) 2 (0, l2 + 1)) l2 (l2 + 1) (get_st1 (get_st1 g0 (by decide) (fun q => tg2 q.2)) (by decide) (fun q => absurd q.1 (by decide))) (get_st1 get_st1e (by decide) (fun q => tg0 q.2)) get_st1e hI (by omega) (by omega) (by omega) (by omega) (by omega) (fun rr χ hIχ hFχ hpχ hEχ => hQ rr χ hIχ (fr_tr (fr_rf) hFχ (by decide)) hpχ (e8b.trans hEχ))
theorem sf_248_192_v {sc : List Int} {d : Nat} {φ : hf_F} {x : Nat} {Q : Option jm_V → hf_F → Nat → Prop} 
    (H : hw sc d 248 9 (jm_st1 (jm_st1 [(0, (2, 192))] 1 (0, (-1 : Int))) 2 (0, 0)) [] (hf_up φ 192 0 0) x Q) :
    hw sc d 248 0 [(0, (2, 192))] [] φ x Q := by
  refine hw_ald (b := 0) (e := 0) (by decide +kernel) rfl (by decide) ?_
  refine hw_k (c := 0) (b := 0) (e := 1) (by decide +kernel) ?_
  refine hr_pi (b := 12) (e := 0) 192 rfl (by decide +kernel) ?_
  refine hw_k (c := (-1 : Int)) (b := 0) (e := 1) (by decide +kernel) ?_
  refine hw_st (L' := (jm_st1 [(0, (2, 192))] 1 (0, (-1 : Int)))) (b := 1) (e := 0) (by decide +kernel) rfl ?_
  refine hw_k (c := 0) (b := 0) (e := 1) (by decide +kernel) ?_
  refine hw_st (L' := (jm_st1 (jm_st1 [(0, (2, 192))] 1 (0, (-1 : Int))) 2 (0, 0))) (b := 2) (e := 0) (by decide +kernel) rfl ?_
  exact H
theorem sf_248_192 {sc : List Int} {d : Nat} {φ : hf_F} {x : Nat} {Q : Option jm_V → hf_F → Nat → Prop}  (hI : Inv φ)  (hQ : ∀ (r : Int) (ψ : hf_F), Inv ψ → Fr [193000] φ ψ → True → F_RideLawsModel_most_192 φ = (r, ψ) → Q (some (0, r)) ψ x) : hw sc d 248 0 [(0, (2, 192))] [] φ x Q := by
  apply sf_248_192_v
  have e0 : F_RideLawsModel_most_192 φ = _ := rfl
  have i1 : Inv (hf_up φ 192 0 0) := iv_up (lo := 0) (u := 1) hI (by decide +kernel) (by omega) (by omega)
  have r1 : Fr [193000] φ (hf_up φ 192 0 0) := fr_up (fr_rf) (by decide)
  exact sf_248_192_l9 ((6 - 0 : Int).toNat + 1) (hf_up φ 192 0 0) (jm_st1 (jm_st1 [(0, (2, 192))] 1 (0, (-1 : Int))) 2 (0, 0)) (-1 : Int) 0 (get_st1 (get_st1 rfl (by decide) (fun q => tg2 q.2)) (by decide) (fun q => absurd q.1 (by decide))) (get_st1 get_st1e (by decide) (fun q => tg0 q.2)) get_st1e i1 (by omega) (by omega) (by omega) (by omega) (by omega) (fun rr χ hIχ hFχ hpχ hEχ => hQ rr χ hIχ (fr_tr r1 hFχ (by decide)) hpχ (e0.trans hEχ))
theorem sf_251_192_v {sc : List Int} {d : Nat} {φ : hf_F} {x : Nat} {Q : Option jm_V → hf_F → Nat → Prop} {v1 : Int}
    (H : 0 ≤ (φ 192 28) ∧ (φ 192 28) < 48 ∧ (Q none (hf_up (hf_up φ 201 ((φ 192 28).toNat) (jm_b (hb_i2b v1))) 192 28 ((φ 192 28) + 1)) x)) :
    hw sc d 251 0 [(0, (2, 192)), (1, (0, v1))] [] φ x Q := by
  refine hw_ald (b := 0) (e := 0) (by decide +kernel) rfl (by decide) ?_
  refine hr_gr (w := 201) (b := 12) (e := 27) 192 rfl (by decide +kernel) ?_
  refine hw_ald (b := 0) (e := 0) (by decide +kernel) rfl (by decide) ?_
  refine hr_gi (w := φ 192 28) (b := 12) (e := 28) 192 rfl (by decide +kernel) rfl ?_
  refine hw_ld (b := 1) (e := 0) (by decide +kernel) rfl ?_
  refine hw_conv (t' := 0) (w := hb_i2b v1) (a0 := 0) (b := 2) (e := 0) (by decide +kernel) rfl ?_
  obtain ⟨hl1, hu1, H⟩ := H
  refine hr_asb (a0 := 0) (e := 4) (n := 48) 201 rfl (by decide +kernel) hl1 hu1 ?_
  refine hw_ald (b := 0) (e := 0) (by decide +kernel) rfl (by decide) ?_
  refine hw_dup (a0 := 0) (e := 0) (by decide +kernel) (by decide) ?_
  refine hr_gi (w := φ 192 28) (b := 12) (e := 28) 192 rfl (by decide +kernel) (hf_up_ne (fun q => absurd q.1 (by decide))) ?_
  refine hw_k (c := 1) (b := 0) (e := 1) (by decide +kernel) ?_
  refine hw_bin (w := (φ 192 28) + 1) (a0 := 0) (b := 0) (e := 0) (by decide +kernel) rfl ?_
  refine hr_pi (b := 12) (e := 28) 192 rfl (by decide +kernel) ?_
  exact hw_vret (a0 := 0) (e := 0) (by decide +kernel) H
theorem sf_251_192 {sc : List Int} {d : Nat} {φ : hf_F} {x : Nat} {Q : Option jm_V → hf_F → Nat → Prop} {v1 : Int} (hI : Inv φ) (hp0 : φ 192 28 ≤ 47) (hQ : ∀ ψ : hf_F, Inv ψ → Fr [201, 193028] φ ψ → ψ 192 28 = φ 192 28 + 1 → F_RideLawsModel_lays_192 φ v1 = ψ → Q none ψ x) : hw sc d 251 0 [(0, (2, 192)), (1, (0, v1))] [] φ x Q := by
  apply sf_251_192_v
  have e0 : F_RideLawsModel_lays_192 φ v1 = _ := rfl
  have f1 := iv_at (a := 192) (k := 28) (lo := 0) (u := 48) hI (by decide +kernel)
  have f2 := hr_i2b v1
  refine ⟨by omega, by omega, ?_⟩
  have f3 := hr_jmb (hb_i2b v1)
  have i4 : Inv (hf_up φ 201 ((φ 192 28).toNat) (jm_b (hb_i2b v1))) := iv_upI (s := 0) (t := 48) (lo := (-128 : Int)) (u := 127) (z := φ 192 28) hI (by decide +kernel) (by omega) (by omega) (by omega) (by omega)
  have r4 : Fr [201, 193028] φ (hf_up φ 201 ((φ 192 28).toNat) (jm_b (hb_i2b v1))) := fr_upa (fr_rf) (by decide)
  have i5 : Inv (hf_up (hf_up φ 201 ((φ 192 28).toNat) (jm_b (hb_i2b v1))) 192 28 ((φ 192 28) + 1)) := iv_up (lo := 0) (u := 48) i4 (by decide +kernel) (by omega) (by omega)
  have r5 : Fr [201, 193028] φ (hf_up (hf_up φ 201 ((φ 192 28).toNat) (jm_b (hb_i2b v1))) 192 28 ((φ 192 28) + 1)) := fr_up r4 (by decide)
  have f6 : (hf_up (hf_up φ 201 ((φ 192 28).toNat) (jm_b (hb_i2b v1))) 192 28 ((φ 192 28) + 1)) 192 28 = (φ 192 28) + 1 := hf_up_eq
  exact hQ (hf_up (hf_up φ 201 ((φ 192 28).toNat) (jm_b (hb_i2b v1))) 192 28 ((φ 192 28) + 1)) i5 r5 (by omega) e0
