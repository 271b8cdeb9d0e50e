theorem sf_258_192_v35 {sc : List Int} {d : Nat} {φ : hf_F} {x : Nat} {Q : Option jm_V → hf_F → Nat → Prop} {L : jm_L} {l1 l2 l3 l4 l5 : Int} (g0 : jm_get L 0 = some (2, 192)) (g1 : jm_get L 1 = some (0, l1)) (g2 : jm_get L 2 = some (0, l2)) (g3 : jm_get L 3 = some (0, l3)) (g4 : jm_get L 4 = some (0, l4)) (g5 : jm_get L 5 = some (0, l5))
    (H : hi l5 ∧ hi l2 ∧ (l2 ≤ l5 → Q (some (0, l4)) φ x) ∧ (¬ l2 ≤ l5 → hw sc (d + 3) 255 0 [(0, (2, 192)), (1, (0, 30)), (2, (0, l3 + l5))] [] φ x (fun r ψ3 y3 => y3 = x ∧ (∃ z3 : Int, r = some (0, z3) ∧ (hw sc (d + 3) 235 0 [(0, (2, 192))] [] ψ3 x (fun r ψ4 y4 => y4 = x ∧ (r = none ∧ (hw sc (d + 4) 258 35 (jm_st1 (jm_st1 L 4 (0, l4 + (hb_and (hb_shr (ψ3 194 102) l1) 1))) 5 (0, l5 + 1)) [] ψ4 x Q)))))))) :
    hw sc (d + 4) 258 35 L [] φ x Q := by
  refine hw_ld (b := 5) (e := 1) (by decide +kernel) g5 ?_
  refine hw_ld (b := 2) (e := 0) (by decide +kernel) g2 ?_
  obtain ⟨hz1, hy1, ht1, hf1⟩ := H
  refine hw_if2 (a0 := 0) (b := 3) (e := 78) (by decide +kernel) hz1 hy1 (fun q => ?_) (fun q => ?_)
  · have H := ht1 q
    refine hw_ld (b := 4) (e := 1) (by decide +kernel) g4 ?_
    exact hw_ret (a0 := 0) (e := 0) (by decide +kernel) (Or.inl rfl) H
  · have H := hf1 q
    refine hw_ald (b := 0) (e := 0) (by decide +kernel) g0 (by decide) ?_
    refine hw_k (c := 30) (b := 1) (e := 2) (by decide +kernel) ?_
    refine hw_ld (b := 3) (e := 0) (by decide +kernel) g3 ?_
    refine hw_ld (b := 5) (e := 1) (by decide +kernel) g5 ?_
    refine hw_bin (w := l3 + l5) (a0 := 0) (b := 0) (e := 0) (by decide +kernel) rfl ?_
    refine hr_call (a0 := 22) (b := 255) (e := 3) (nl := 4) (As := [(0, 30), (0, l3 + l5)]) (R := []) 192 rfl (by decide +kernel) rfl rfl (Nat.le_of_ble_eq_true rfl) (Nat.le_of_ble_eq_true rfl) ?_
    refine hw_mono H ?_
    rintro r ψ3 y3 ⟨hyx, z3, hr, H⟩
    subst hyx
    subst hr
    refine ⟨hne0, ?_⟩
    show hw sc (d + 4) 258 51 L [(0, z3)] ψ3 y3 Q
    refine hw_pop (a0 := 0) (e := 0) (by decide +kernel) (by decide) ?_
    refine hw_ld (b := 4) (e := 1) (by decide +kernel) g4 ?_
    refine hw_ald (b := 0) (e := 0) (by decide +kernel) g0 (by decide) ?_
    refine hr_gr (w := 194) (b := 12) (e := 6) 192 rfl (by decide +kernel) ?_
    refine hw_k (c := 102) (b := 1) (e := 2) (by decide +kernel) ?_
    refine hr_al (b := 0) (a0 := 0) (e := 0) (n := 361) (w := ψ3 194 102) 194 rfl (by decide +kernel) (by decide) (by decide) (by decide) rfl ?_
    refine hw_ld (b := 1) (e := 0) (by decide +kernel) g1 ?_
    refine hw_bin (w := hb_shr (ψ3 194 102) l1) (a0 := 0) (b := 7) (e := 0) (by decide +kernel) rfl ?_
    refine hw_k (c := 1) (b := 0) (e := 1) (by decide +kernel) ?_
    refine hw_bin (w := hb_and (hb_shr (ψ3 194 102) l1) 1) (a0 := 0) (b := 3) (e := 0) (by decide +kernel) rfl ?_
    refine hw_bin (w := l4 + (hb_and (hb_shr (ψ3 194 102) l1) 1)) (a0 := 0) (b := 0) (e := 0) (by decide +kernel) rfl ?_
    refine hw_st (L' := (jm_st1 L 4 (0, l4 + (hb_and (hb_shr (ψ3 194 102) l1) 1)))) (b := 4) (e := 1) (by decide +kernel) rfl ?_
    refine hw_ald (b := 0) (e := 0) (by decide +kernel) (get_st1 g0 (by decide) (fun q => absurd q.1 (by decide))) (by decide) ?_
    refine hr_call (a0 := 22) (b := 235) (e := 1) (nl := 2) (As := []) (R := []) 192 rfl (by decide +kernel) rfl rfl (Nat.le_of_ble_eq_true rfl) (Nat.le_of_ble_eq_true rfl) ?_
    refine hw_mono H ?_
    rintro r ψ4 y4 ⟨hyx, hr, H⟩
    subst hyx
    subst hr
    refine ⟨hnen, ?_⟩
    show hw sc (d + 4) 258 72 (jm_st1 L 4 (0, l4 + (hb_and (hb_shr (ψ3 194 102) l1) 1))) [] ψ4 y4 Q
    refine hw_inc (L' := (jm_st1 (jm_st1 L 4 (0, l4 + (hb_and (hb_shr (ψ3 194 102) l1) 1))) 5 (0, l5 + 1))) (c := 1) (b := 5) (e := 0) (by decide +kernel) (get_st1 g5 (by decide) (fun q => absurd q.1 (by decide))) rfl ?_
    refine hw_goto (a0 := 0) (b := 0) (e := 35) (by decide +kernel) ?_
    exact H
theorem sf_258_192_l35 {sc : List Int} {d x : Nat} {Q : Option jm_V → hf_F → Nat → Prop} : ∀ (n : Nat) (φ : hf_F) (L : jm_L) (l1 l2 l3 l4 l5 : Int), jm_get L 0 = some (2, 192) → jm_get L 1 = some (0, l1) → jm_get L 2 = some (0, l2) → jm_get L 3 = some (0, l3) → jm_get L 4 = some (0, l4) → jm_get L 5 = some (0, l5) → Inv φ → 30 - l5 < (n : Int) → 0 ≤ l1 → l1 ≤ 7 → 1 ≤ l2 → l2 ≤ 30 → 0 ≤ l5 → l5 ≤ 30 → (∀ (r : Int) (ψ : hf_F), Inv ψ → Fr [192, 194, 200] φ ψ → True → Q (some (0, r)) ψ x) → hw sc (d + 4) 258 35 L [] φ x Q := by
  intro n
  induction n with
  | zero =>
    intro φ L l1 l2 l3 l4 l5 g0 g1 g2 g3 g4 g5 hI hM b1a b1b b2a b2b b5a b5b hQ
    exfalso
    omega
  | succ n ih =>
    intro φ L l1 l2 l3 l4 l5 g0 g1 g2 g3 g4 g5 hI hM b1a b1b b2a b2b b5a b5b hQ
    refine sf_258_192_v35 g0 g1 g2 g3 g4 g5 ?_
    refine ⟨by unfold hi; omega, by unfold hi; omega, fun q1 => ?_, fun q1 => ?_⟩
    · skip
      exact hQ l4 φ hI (fr_rf) trivial
    · skip
      refine sf_255_192 (φ := φ) hI (by omega) (by omega) (fun z3 ψ3 hI3 hF3 hp3 => ⟨rfl, z3, rfl, ?_⟩)
      have hG3 : Fr [192, 194, 200] φ ψ3 := fr_tr (fr_rf) hF3 (by decide)
      have f1 := iv_at (a := 194) (k := 102) (lo := (-2147483648 : Int)) (u := 2147483647) hI3 (by decide +kernel)
      have f2 := hr_shr0 (ψ3 194 102) l1
      have f3 := hr_shr (ψ3 194 102) l1
      have f4 := hr_and0 (hb_shr (ψ3 194 102) l1) 1
      have f5 := hr_and1 (hb_shr (ψ3 194 102) l1)
      have f6 := hr_and (hb_shr (ψ3 194 102) l1) 1
      refine sf_235_192 (φ := ψ3) hI3  (fun ψ4 hI4 hF4 => ⟨rfl, rfl, ?_⟩)
      have hG4 : Fr [192, 194, 200] φ ψ4 := fr_tr hG3 hF4 (by decide)
      exact ih ψ4 (jm_st1 (jm_st1 L 4 (0, l4 + (hb_and (hb_shr (ψ3 194 102) l1) 1))) 5 (0, l5 + 1)) l1 l2 l3 (l4 + (hb_and (hb_shr (ψ3 194 102) l1) 1)) (l5 + 1) (get_st1 (get_st1 g0 (by decide) (fun q => absurd q.1 (by decide))) (by decide) (fun q => absurd q.1 (by decide))) (get_st1 (get_st1 g1 (by decide) (fun q => absurd q.1 (by decide))) (by decide) (fun q => absurd q.1 (by decide))) (get_st1 (get_st1 g2 (by decide) (fun q => absurd q.1 (by decide))) (by decide) (fun q => absurd q.1 (by decide))) (get_st1 (get_st1 g3 (by decide) (fun q => tg0 q.2)) (by decide) (fun q => absurd q.1 (by decide))) (get_st1 get_st1e (by decide) (fun q => tg0 q.2)) get_st1e hI4 (by omega) (by omega) (by omega) (by omega) (by omega) (by omega) (by omega) (fun rr χ hIχ hFχ hpχ => hQ rr χ hIχ (fr_tr hG4 hFχ (by decide)) hpχ)
theorem sf_258_192_v {sc : List Int} {d : Nat} {φ : hf_F} {x : Nat} {Q : Option jm_V → hf_F → Nat → Prop} {v1 v2 v3 : Int}
    (H : hw sc (d + 3) 211 0 [(0, (2, 192)), (1, (0, v1))] [] (hf_up φ 192 0 0) x (fun r ψ1 y1 => y1 = x ∧ (hf_up φ 192 0 0) = ψ1 ∧ (∃ z1 : Int, r = some (0, z1) ∧ (hi z1 ∧ (z1 = 0 → Q (some (0, (-1 : Int))) (hf_up φ 192 0 0) x) ∧ (¬ z1 = 0 → hw sc (d + 3) 188 0 [(0, (0, v2)), (1, (0, 1)), (2, (0, 30))] [] (hf_up φ 192 0 0) x (fun r ψ4 y4 => y4 = x ∧ (hf_up φ 192 0 0) = ψ4 ∧ (∃ z4 : Int, r = some (0, z4) ∧ (hi z4 ∧ (¬ z4 = 0 → hw sc (d + 3) 233 0 [(0, (2, 192))] [] (hf_up φ 192 0 0) x (fun r ψ6 y6 => y6 = x ∧ (r = none ∧ (hw sc (d + 4) 258 35 (jm_st1 (jm_st1 [(0, (2, 192)), (1, (0, v1)), (2, (0, v2)), (3, (0, v3))] 4 (0, 0)) 5 (0, 0)) [] ψ6 x Q)))) ∧ (¬ (¬ z4 = 0) → Q (some (0, (-1 : Int))) (hf_up φ 192 0 0) x))))))))) :
    hw sc (d + 4) 258 0 [(0, (2, 192)), (1, (0, v1)), (2, (0, v2)), (3, (0, v3))] [] φ x Q := by
  refine hw_ald (b := 0) (e := 0) (by decide +kernel) rfl (by decide) ?_
  refine hw_k (c := 0) (b := 0) (e := 1) (by decide +kernel) ?_
  refine hr_pi (b := 12) (e := 0) 192 rfl (by decide +kernel) ?_
  refine hw_ald (b := 0) (e := 0) (by decide +kernel) rfl (by decide) ?_
  refine hw_ld (b := 1) (e := 0) (by decide +kernel) rfl ?_
  refine hr_call (a0 := 22) (b := 211) (e := 2) (nl := 2) (As := [(0, v1)]) (R := []) 192 rfl (by decide +kernel) rfl rfl (Nat.le_of_ble_eq_true rfl) (Nat.le_of_ble_eq_true rfl) ?_
  refine hw_mono H ?_
  rintro r ψ1 y1 ⟨hyx, hψx, z1, hr, H⟩
  subst hyx
  subst hψx
  subst hr
  refine ⟨hne0, ?_⟩
  show hw sc (d + 4) 258 10 [(0, (2, 192)), (1, (0, v1)), (2, (0, v2)), (3, (0, v3))] [(0, z1)] (hf_up φ 192 0 0) y1 Q
  obtain ⟨hz2, ht2, hf2⟩ := H
  refine hw_if (a0 := 0) (b := 0) (e := 23) (by decide +kernel) hz2 (fun q => ?_) (fun q => ?_)
  · have H := ht2 q
    refine hw_k (c := (-1 : Int)) (b := 0) (e := 1) (by decide +kernel) ?_
    exact hw_ret (a0 := 0) (e := 0) (by decide +kernel) (Or.inl rfl) H
  · have H := hf2 q
    refine hw_ld (b := 2) (e := 0) (by decide +kernel) rfl ?_
    refine hw_k (c := 1) (b := 0) (e := 1) (by decide +kernel) ?_
    refine hw_k (c := 30) (b := 1) (e := 2) (by decide +kernel) ?_
    refine hr_calls (b := 188) (e := 3) (nl := 3) (As := [(0, v2), (0, 1), (0, 30)]) (R := []) (by decide +kernel) rfl rfl (Nat.le_of_ble_eq_true rfl) (Nat.le_of_ble_eq_true rfl) ?_
    refine hw_mono H ?_
    rintro r ψ4 y4 ⟨hyx, hψx, z4, hr, H⟩
    subst hyx
    subst hψx
    subst hr
    refine ⟨hne0, ?_⟩
    show hw sc (d + 4) 258 20 [(0, (2, 192)), (1, (0, v1)), (2, (0, v2)), (3, (0, v3))] [(0, z4)] (hf_up φ 192 0 0) y4 Q
    obtain ⟨hz5, ht5, hf5⟩ := H
    refine hw_if (a0 := 0) (b := 1) (e := 25) (by decide +kernel) hz5 (fun q => ?_) (fun q => ?_)
    · have H := ht5 q
      refine hw_ald (b := 0) (e := 0) (by decide +kernel) rfl (by decide) ?_
      refine hr_call (a0 := 22) (b := 233) (e := 1) (nl := 2) (As := []) (R := []) 192 rfl (by decide +kernel) rfl rfl (Nat.le_of_ble_eq_true rfl) (Nat.le_of_ble_eq_true rfl) ?_
      refine hw_mono H ?_
      rintro r ψ6 y6 ⟨hyx, hr, H⟩
      subst hyx
      subst hr
      refine ⟨hnen, ?_⟩
      show hw sc (d + 4) 258 29 [(0, (2, 192)), (1, (0, v1)), (2, (0, v2)), (3, (0, v3))] [] ψ6 y6 Q
      refine hw_k (c := 0) (b := 0) (e := 1) (by decide +kernel) ?_
      refine hw_st (L' := (jm_st1 [(0, (2, 192)), (1, (0, v1)), (2, (0, v2)), (3, (0, v3))] 4 (0, 0))) (b := 4) (e := 1) (by decide +kernel) rfl ?_
      refine hw_k (c := 0) (b := 0) (e := 1) (by decide +kernel) ?_
      refine hw_st (L' := (jm_st1 (jm_st1 [(0, (2, 192)), (1, (0, v1)), (2, (0, v2)), (3, (0, v3))] 4 (0, 0)) 5 (0, 0))) (b := 5) (e := 1) (by decide +kernel) rfl ?_
      exact H
    · have H := hf5 q
      refine hw_k (c := (-1 : Int)) (b := 0) (e := 1) (by decide +kernel) ?_
      exact hw_ret (a0 := 0) (e := 0) (by decide +kernel) (Or.inl rfl) H
theorem sf_258_192 {sc : List Int} {d : Nat} {φ : hf_F} {x : Nat} {Q : Option jm_V → hf_F → Nat → Prop} {v1 v2 v3 : Int} (hI : Inv φ) (h1a : (-2147483648 : Int) ≤ v1) (h1b : v1 ≤ 2147483647) (h2a : (-2147483648 : Int) ≤ v2) (h2b : v2 ≤ 2147483647) (h3a : (-2147483648 : Int) ≤ v3) (h3b : v3 ≤ 2147483647) (hQ : ∀ (r : Int) (ψ : hf_F), Inv ψ → Fr [192, 194, 200] φ ψ → True → Q (some (0, r)) ψ x) : hw sc (d + 4) 258 0 [(0, (2, 192)), (1, (0, v1)), (2, (0, v2)), (3, (0, v3))] [] φ x Q := by
  apply sf_258_192_v
  have i1 : Inv (hf_up φ 192 0 0) := iv_up (lo := 0) (u := 1) hI (by decide +kernel) (by omega) (by omega)
  have r1 : Fr [192, 194, 200] φ (hf_up φ 192 0 0) := fr_up (fr_rf) (by decide)
  refine sf_211_192 (φ := (hf_up φ 192 0 0)) i1 (by omega) (by omega) (fun z1 hp1 => ⟨rfl, rfl, z1, rfl, ?_⟩)
  have f2 : (hf_up φ 192 0 0) 194 4 = φ 194 4 := (hf_up_ne (fun q => absurd q.1 (by decide)))
  have f3 := iv_at (a := 194) (k := 4) (lo := 0) (u := 8) hI (by decide +kernel)
  refine ⟨by unfold hi; omega, fun q2 => ?_, fun q2 => ?_⟩
  · skip
    exact hQ (-1 : Int) (hf_up φ 192 0 0) i1 r1 trivial
  · skip
    refine sf_188 (φ := (hf_up φ 192 0 0)) i1 (by omega) (by omega) (by omega) (by omega) (by omega) (by omega) (fun z4 hp4 => ⟨rfl, rfl, z4, rfl, ?_⟩)
    refine ⟨by unfold hi; omega, fun q5 => ?_, fun q5 => ?_⟩
    · skip
      refine sf_233_192 (φ := (hf_up φ 192 0 0)) i1  (fun ψ6 hI6 hF6 => ⟨rfl, rfl, ?_⟩)
      have hG6 : Fr [192, 194, 200] φ ψ6 := fr_tr r1 hF6 (by decide)
      exact sf_258_192_l35 ((30 - 0 : Int).toNat + 1) ψ6 (jm_st1 (jm_st1 [(0, (2, 192)), (1, (0, v1)), (2, (0, v2)), (3, (0, v3))] 4 (0, 0)) 5 (0, 0)) v1 v2 v3 0 0 (get_st1 (get_st1 rfl (by decide) (fun q => absurd q.1 (by decide))) (by decide) (fun q => absurd q.1 (by decide))) (get_st1 (get_st1 rfl (by decide) (fun q => absurd q.1 (by decide))) (by decide) (fun q => absurd q.1 (by decide))) (get_st1 (get_st1 rfl (by decide) (fun q => absurd q.1 (by decide))) (by decide) (fun q => absurd q.1 (by decide))) (get_st1 (get_st1 rfl (by decide) (fun q => tg0 q.2)) (by decide) (fun q => absurd q.1 (by decide))) (get_st1 get_st1e (by decide) (fun q => tg0 q.2)) get_st1e hI6 (by omega) (by omega) (by omega) (by omega) (by omega) (by omega) (by omega) (fun rr χ hIχ hFχ hpχ => hQ rr χ hIχ (fr_tr hG6 hFχ (by decide)) hpχ)
    · skip
      exact hQ (-1 : Int) (hf_up φ 192 0 0) i1 r1 trivial
theorem sf_261_192_v {sc : List Int} {d : Nat} {φ : hf_F} {x : Nat} {Q : Option jm_V → hf_F → Nat → Prop} {v1 v2 v3 : Int}
    (H : hi v1 ∧ (v1 = 0 → hw sc (d + 3) 215 0 [(0, (2, 192)), (1, (0, v2)), (2, (0, v3))] [] φ x (fun r ψ2 y2 => y2 = x ∧ φ = ψ2 ∧ (∃ z2 : Int, r = some (0, z2) ∧ (hi z2 ∧ (¬ z2 = 0 → hi z2 ∧ (z2 ≤ 0 → Q (some (0, 0)) φ x) ∧ (¬ z2 ≤ 0 → Q (some (0, (10 * v1) + z2)) φ x)) ∧ (¬ (¬ z2 = 0) → 0 ≤ (112 + v2) ∧ (112 + v2) < 361 ∧ (hi z2 ∧ (z2 ≤ 0 → Q (some (0, 0)) (hf_up φ 194 ((112 + v2).toNat) (v3 + 1)) x) ∧ (¬ z2 ≤ 0 → Q (some (0, (10 * v1) + z2)) (hf_up φ 194 ((112 + v2).toNat) (v3 + 1)) x))))))) ∧ (v1 = 1 → 0 ≤ (112 + v2) ∧ (112 + v2) < 361 ∧ (hi (φ 194 ((112 + v2).toNat)) ∧ (¬ (φ 194 ((112 + v2).toNat)) = 0 → 0 ≤ (112 + v2) ∧ (112 + v2) < 361 ∧ (Q (some (0, 0)) (hf_up φ 194 ((112 + v2).toNat) 0) x)) ∧ (¬ (¬ (φ 194 ((112 + v2).toNat)) = 0) → 0 ≤ (112 + v2) ∧ (112 + v2) < 361 ∧ (Q (some (0, (10 * v1) + 1)) (hf_up φ 194 ((112 + v2).toNat) 0) x)))) ∧ (v1 = 2 → hw sc (d + 3) 219 0 [(0, (2, 192)), (1, (0, v2))] [] φ x (fun r ψ19 y19 => y19 = x ∧ φ = ψ19 ∧ (∃ z19 : Int, r = some (0, z19) ∧ (hi z19 ∧ (¬ z19 = 0 → hi z19 ∧ (z19 ≤ 0 → Q (some (0, 0)) φ x) ∧ (¬ z19 ≤ 0 → Q (some (0, (10 * v1) + z19)) φ x)) ∧ (¬ (¬ z19 = 0) → hw sc (d + 3) 220 0 [(0, (2, 192)), (1, (0, v2)), (2, (0, v3))] [] φ x (fun r ψ24 y24 => y24 = x ∧ (r = none ∧ (hi z19 ∧ (z19 ≤ 0 → Q (some (0, 0)) ψ24 x) ∧ (¬ z19 ≤ 0 → Q (some (0, (10 * v1) + z19)) ψ24 x))))))))) ∧ (v1 = 3 → hw sc (d + 3) 222 0 [(0, (2, 192))] [] φ x (fun r ψ28 y28 => y28 = x ∧ φ = ψ28 ∧ (∃ z28 : Int, r = some (0, z28) ∧ (hi z28 ∧ (¬ z28 = 0 → hi z28 ∧ (z28 ≤ 0 → Q (some (0, 0)) φ x) ∧ (¬ z28 ≤ 0 → Q (some (0, (10 * v1) + z28)) φ x)) ∧ (¬ (¬ z28 = 0) → hw sc (d + 3) 223 0 [(0, (2, 192))] [] φ x (fun r ψ33 y33 => y33 = x ∧ (r = none ∧ (hi z28 ∧ (z28 ≤ 0 → Q (some (0, 0)) ψ33 x) ∧ (¬ z28 ≤ 0 → Q (some (0, (10 * v1) + z28)) ψ33 x))))))))) ∧ ((v1 < 0 ∨ 4 ≤ v1) → hi 1000 ∧ ((jm_n ((φ 194 99) + v2)) ≤ 1000 → hw sc (d + 3) 225 0 [(0, (2, 192)), (1, (0, v2))] [] φ x (fun r ψ39 y39 => y39 = x ∧ (∃ z39 : Int, r = some (0, z39) ∧ (Q (some (0, 0)) ψ39 x)))) ∧ (¬ (jm_n ((φ 194 99) + v2)) ≤ 1000 → Q (some (0, (10 * v1) + 1)) φ x))) :
    hw sc (d + 4) 261 0 [(0, (2, 192)), (1, (0, v1)), (2, (0, v2)), (3, (0, v3))] [] φ x Q := by
  refine hw_k (c := 0) (b := 0) (e := 1) (by decide +kernel) ?_
  refine hw_st (L' := (jm_st1 [(0, (2, 192)), (1, (0, v1)), (2, (0, v2)), (3, (0, v3))] 4 (0, 0))) (b := 4) (e := 1) (by decide +kernel) rfl ?_
  refine hw_ld (b := 1) (e := 0) (by decide +kernel) (get_st1 rfl (by decide) (fun q => absurd q.1 (by decide))) ?_
  obtain ⟨hz1, H⟩ := H
  refine hr_tsw (T := [36, 64, 96, 117]) (lo := 0) (nn := 4) (b := 135) (e := 12) (by decide +kernel) rfl hz1 ?_ ?_
  · intro q
    have H := H.2.2.2.2 q
    refine hw_ald (b := 0) (e := 0) (by decide +kernel) (get_st1 rfl (by decide) (fun q => absurd q.1 (by decide))) (by decide) ?_
    refine hr_gr (w := 194) (b := 12) (e := 6) 192 rfl (by decide +kernel) ?_
    refine hw_k (c := 99) (b := 1) (e := 2) (by decide +kernel) ?_
    refine hr_al (b := 0) (a0 := 0) (e := 0) (n := 361) (w := φ 194 99) 194 rfl (by decide +kernel) (by decide) (by decide) (by decide) rfl ?_
    refine hw_ld (b := 2) (e := 0) (by decide +kernel) (get_st1 rfl (by decide) (fun q => absurd q.1 (by decide))) ?_
    refine hw_bin (w := (φ 194 99) + v2) (a0 := 0) (b := 0) (e := 0) (by decide +kernel) rfl ?_
    refine hw_k (c := 1000) (b := 2) (e := 3) (by decide +kernel) ?_
    obtain ⟨hz37, ht37, hf37⟩ := H
    refine hw_if2l (a0 := 0) (b := 5) (e := 154) (by decide +kernel) hz37 (fun q => ?_) (fun q => ?_)
    · have H := ht37 q
      refine hw_k (c := 0) (b := 0) (e := 1) (by decide +kernel) ?_
      refine hw_st (L' := (jm_st1 (jm_st1 [(0, (2, 192)), (1, (0, v1)), (2, (0, v2)), (3, (0, v3))] 4 (0, 0)) 4 (0, 0))) (b := 4) (e := 1) (by decide +kernel) rfl ?_
      refine hw_ld (b := 4) (e := 1) (by decide +kernel) get_st1e ?_
      refine hw_if (a0 := 0) (b := 1) (e := 168) (by decide +kernel) (by unfold hi; omega) (fun q => absurd (show ¬ (0 : Int) = 0 from q) (by decide)) (fun _ => ?_)
      refine hw_ald (b := 0) (e := 0) (by decide +kernel) (get_st1 (get_st1 rfl (by decide) (fun q => absurd q.1 (by decide))) (by decide) (fun q => absurd q.1 (by decide))) (by decide) ?_
      refine hw_ld (b := 2) (e := 0) (by decide +kernel) (get_st1 (get_st1 rfl (by decide) (fun q => absurd q.1 (by decide))) (by decide) (fun q => absurd q.1 (by decide))) ?_
      refine hr_call (a0 := 22) (b := 225) (e := 2) (nl := 3) (As := [(0, v2)]) (R := []) 192 rfl (by decide +kernel) rfl rfl (Nat.le_of_ble_eq_true rfl) (Nat.le_of_ble_eq_true rfl) ?_
      refine hw_mono H ?_
      rintro r ψ39 y39 ⟨hyx, z39, hr, H⟩
      subst hyx
      subst hr
      refine ⟨hne0, ?_⟩
      show hw sc (d + 4) 261 167 (jm_st1 (jm_st1 [(0, (2, 192)), (1, (0, v1)), (2, (0, v2)), (3, (0, v3))] 4 (0, 0)) 4 (0, 0)) [(0, z39)] ψ39 y39 Q
      refine hw_pop (a0 := 0) (e := 0) (by decide +kernel) (by decide) ?_
      refine hw_ld (b := 4) (e := 1) (by decide +kernel) get_st1e ?_
      refine hw_if (a0 := 0) (b := 5) (e := 183) (by decide +kernel) (by unfold hi; omega) (fun _ => ?_) (fun q => absurd (show (0 : Int) ≤ 0 by decide) q)
      refine hw_k (c := 0) (b := 0) (e := 1) (by decide +kernel) ?_
      exact hw_ret (a0 := 0) (e := 0) (by decide +kernel) (Or.inl rfl) H
    · have H := hf37 q
      refine hw_k (c := 1) (b := 0) (e := 1) (by decide +kernel) ?_
      refine hw_goto (a0 := 0) (b := 0) (e := 155) (by decide +kernel) ?_
      refine hw_st (L' := (jm_st1 (jm_st1 [(0, (2, 192)), (1, (0, v1)), (2, (0, v2)), (3, (0, v3))] 4 (0, 0)) 4 (0, 1))) (b := 4) (e := 1) (by decide +kernel) rfl ?_
      refine hw_ld (b := 4) (e := 1) (by decide +kernel) get_st1e ?_
      refine hw_if (a0 := 0) (b := 1) (e := 168) (by decide +kernel) (by unfold hi; omega) (fun _ => ?_) (fun q => absurd (show ¬ (1 : Int) = 0 by decide) q)
      refine hw_ld (b := 4) (e := 1) (by decide +kernel) get_st1e ?_
      refine hw_if (a0 := 0) (b := 5) (e := 183) (by decide +kernel) (by unfold hi; omega) (fun q => absurd (show (1 : Int) ≤ 0 from q) (by decide)) (fun _ => ?_)
      refine hw_k (c := 10) (b := 1) (e := 2) (by decide +kernel) ?_
      refine hw_ld (b := 1) (e := 0) (by decide +kernel) (get_st1 (get_st1 rfl (by decide) (fun q => absurd q.1 (by decide))) (by decide) (fun q => absurd q.1 (by decide))) ?_
      refine hw_bin (w := 10 * v1) (a0 := 0) (b := 2) (e := 0) (by decide +kernel) rfl ?_
      refine hw_ld (b := 4) (e := 1) (by decide +kernel) get_st1e ?_
      refine hw_bin (w := (10 * v1) + 1) (a0 := 0) (b := 0) (e := 0) (by decide +kernel) rfl ?_
      refine hw_goto (a0 := 0) (b := 0) (e := 184) (by decide +kernel) ?_
      exact hw_ret (a0 := 0) (e := 0) (by decide +kernel) (Or.inl rfl) H
  · intro kq tq htq hzq
    match kq, htq, hzq with
    | 0, htq, hzq =>
      cases htq
      have H := H.1 (by omega)
      refine hw_ald (b := 0) (e := 0) (by decide +kernel) (get_st1 rfl (by decide) (fun q => absurd q.1 (by decide))) (by decide) ?_
      refine hw_ld (b := 2) (e := 0) (by decide +kernel) (get_st1 rfl (by decide) (fun q => absurd q.1 (by decide))) ?_
      refine hw_ld (b := 3) (e := 0) (by decide +kernel) (get_st1 rfl (by decide) (fun q => tg0 q.2)) ?_
      refine hr_call (a0 := 22) (b := 215) (e := 3) (nl := 3) (As := [(0, v2), (0, v3)]) (R := []) 192 rfl (by decide +kernel) rfl rfl (Nat.le_of_ble_eq_true rfl) (Nat.le_of_ble_eq_true rfl) ?_
      refine hw_mono H ?_
      rintro r ψ2 y2 ⟨hyx, hψx, z2, hr, H⟩
      subst hyx
      subst hψx
      subst hr
      refine ⟨hne0, ?_⟩
      show hw sc (d + 4) 261 42 (jm_st1 [(0, (2, 192)), (1, (0, v1)), (2, (0, v2)), (3, (0, v3))] 4 (0, 0)) [(0, z2)] φ y2 Q
      refine hw_st (L' := (jm_st1 (jm_st1 [(0, (2, 192)), (1, (0, v1)), (2, (0, v2)), (3, (0, v3))] 4 (0, 0)) 4 (0, z2))) (b := 4) (e := 1) (by decide +kernel) rfl ?_
      refine hw_ld (b := 4) (e := 1) (by decide +kernel) get_st1e ?_
      obtain ⟨hz3, ht3, hf3⟩ := H
      refine hw_if (a0 := 0) (b := 1) (e := 168) (by decide +kernel) hz3 (fun q => ?_) (fun q => ?_)
      · have H := ht3 q
        refine hw_ld (b := 4) (e := 1) (by decide +kernel) get_st1e ?_
        obtain ⟨hz4, ht4, hf4⟩ := H
        refine hw_if (a0 := 0) (b := 5) (e := 183) (by decide +kernel) hz4 (fun q => ?_) (fun q => ?_)
        · have H := ht4 q
          refine hw_k (c := 0) (b := 0) (e := 1) (by decide +kernel) ?_
          exact hw_ret (a0 := 0) (e := 0) (by decide +kernel) (Or.inl rfl) H
        · have H := hf4 q
          refine hw_k (c := 10) (b := 1) (e := 2) (by decide +kernel) ?_
          refine hw_ld (b := 1) (e := 0) (by decide +kernel) (get_st1 (get_st1 rfl (by decide) (fun q => absurd q.1 (by decide))) (by decide) (fun q => absurd q.1 (by decide))) ?_
          refine hw_bin (w := 10 * v1) (a0 := 0) (b := 2) (e := 0) (by decide +kernel) rfl ?_
          refine hw_ld (b := 4) (e := 1) (by decide +kernel) get_st1e ?_
          refine hw_bin (w := (10 * v1) + z2) (a0 := 0) (b := 0) (e := 0) (by decide +kernel) rfl ?_
          refine hw_goto (a0 := 0) (b := 0) (e := 184) (by decide +kernel) ?_
          exact hw_ret (a0 := 0) (e := 0) (by decide +kernel) (Or.inl rfl) H
      · have H := hf3 q
        refine hw_ald (b := 0) (e := 0) (by decide +kernel) (get_st1 (get_st1 rfl (by decide) (fun q => absurd q.1 (by decide))) (by decide) (fun q => absurd q.1 (by decide))) (by decide) ?_
        refine hr_gr (w := 194) (b := 12) (e := 6) 192 rfl (by decide +kernel) ?_
        refine hw_k (c := 112) (b := 1) (e := 2) (by decide +kernel) ?_
        refine hw_ld (b := 2) (e := 0) (by decide +kernel) (get_st1 (get_st1 rfl (by decide) (fun q => absurd q.1 (by decide))) (by decide) (fun q => absurd q.1 (by decide))) ?_
        refine hw_bin (w := 112 + v2) (a0 := 0) (b := 0) (e := 0) (by decide +kernel) rfl ?_
        refine hw_ld (b := 3) (e := 0) (by decide +kernel) (get_st1 (get_st1 rfl (by decide) (fun q => tg0 q.2)) (by decide) (fun q => tg0 q.2)) ?_
        refine hw_k (c := 1) (b := 0) (e := 1) (by decide +kernel) ?_
        refine hw_bin (w := v3 + 1) (a0 := 0) (b := 0) (e := 0) (by decide +kernel) rfl ?_
        obtain ⟨hl7, hu7, H⟩ := H
        refine hr_as (a0 := 0) (e := 4) (n := 361) 194 rfl (by decide +kernel) hl7 hu7 ?_
        refine hw_goto (a0 := 0) (b := 0) (e := 168) (by decide +kernel) ?_
        refine hw_ld (b := 4) (e := 1) (by decide +kernel) get_st1e ?_
        obtain ⟨hz8, ht8, hf8⟩ := H
        refine hw_if (a0 := 0) (b := 5) (e := 183) (by decide +kernel) hz8 (fun q => ?_) (fun q => ?_)
        · have H := ht8 q
          refine hw_k (c := 0) (b := 0) (e := 1) (by decide +kernel) ?_
          exact hw_ret (a0 := 0) (e := 0) (by decide +kernel) (Or.inl rfl) H
        · have H := hf8 q
          refine hw_k (c := 10) (b := 1) (e := 2) (by decide +kernel) ?_
          refine hw_ld (b := 1) (e := 0) (by decide +kernel) (get_st1 (get_st1 rfl (by decide) (fun q => absurd q.1 (by decide))) (by decide) (fun q => absurd q.1 (by decide))) ?_
          refine hw_bin (w := 10 * v1) (a0 := 0) (b := 2) (e := 0) (by decide +kernel) rfl ?_
          refine hw_ld (b := 4) (e := 1) (by decide +kernel) get_st1e ?_
          refine hw_bin (w := (10 * v1) + z2) (a0 := 0) (b := 0) (e := 0) (by decide +kernel) rfl ?_
          refine hw_goto (a0 := 0) (b := 0) (e := 184) (by decide +kernel) ?_
          exact hw_ret (a0 := 0) (e := 0) (by decide +kernel) (Or.inl rfl) H
    | 1, htq, hzq =>
      cases htq
      have H := H.2.1 (by omega)
      refine hw_ald (b := 0) (e := 0) (by decide +kernel) (get_st1 rfl (by decide) (fun q => absurd q.1 (by decide))) (by decide) ?_
      refine hr_gr (w := 194) (b := 12) (e := 6) 192 rfl (by decide +kernel) ?_
      refine hw_k (c := 112) (b := 1) (e := 2) (by decide +kernel) ?_
      refine hw_ld (b := 2) (e := 0) (by decide +kernel) (get_st1 rfl (by decide) (fun q => absurd q.1 (by decide))) ?_
      refine hw_bin (w := 112 + v2) (a0 := 0) (b := 0) (e := 0) (by decide +kernel) rfl ?_
      obtain ⟨hl11, hu11, H⟩ := H
      refine hr_al (b := 0) (a0 := 0) (e := 0) (n := 361) (w := φ 194 ((112 + v2).toNat)) 194 rfl (by decide +kernel) (by decide) hl11 hu11 rfl ?_
      obtain ⟨hz12, ht12, hf12⟩ := H
      refine hw_if (a0 := 0) (b := 1) (e := 80) (by decide +kernel) hz12 (fun q => ?_) (fun q => ?_)
      · have H := ht12 q
        refine hw_k (c := 0) (b := 0) (e := 1) (by decide +kernel) ?_
        refine hw_st (L' := (jm_st1 (jm_st1 [(0, (2, 192)), (1, (0, v1)), (2, (0, v2)), (3, (0, v3))] 4 (0, 0)) 4 (0, 0))) (b := 4) (e := 1) (by decide +kernel) rfl ?_
        refine hw_ald (b := 0) (e := 0) (by decide +kernel) (get_st1 (get_st1 rfl (by decide) (fun q => absurd q.1 (by decide))) (by decide) (fun q => absurd q.1 (by decide))) (by decide) ?_
        refine hr_gr (w := 194) (b := 12) (e := 6) 192 rfl (by decide +kernel) ?_
        refine hw_k (c := 112) (b := 1) (e := 2) (by decide +kernel) ?_
        refine hw_ld (b := 2) (e := 0) (by decide +kernel) (get_st1 (get_st1 rfl (by decide) (fun q => absurd q.1 (by decide))) (by decide) (fun q => absurd q.1 (by decide))) ?_
        refine hw_bin (w := 112 + v2) (a0 := 0) (b := 0) (e := 0) (by decide +kernel) rfl ?_
        refine hw_k (c := 0) (b := 0) (e := 1) (by decide +kernel) ?_
        obtain ⟨hl13, hu13, H⟩ := H
        refine hr_as (a0 := 0) (e := 4) (n := 361) 194 rfl (by decide +kernel) hl13 hu13 ?_
        refine hw_goto (a0 := 0) (b := 0) (e := 168) (by decide +kernel) ?_
        refine hw_ld (b := 4) (e := 1) (by decide +kernel) get_st1e ?_
        refine hw_if (a0 := 0) (b := 5) (e := 183) (by decide +kernel) (by unfold hi; omega) (fun _ => ?_) (fun q => absurd (show (0 : Int) ≤ 0 by decide) q)
        refine hw_k (c := 0) (b := 0) (e := 1) (by decide +kernel) ?_
        exact hw_ret (a0 := 0) (e := 0) (by decide +kernel) (Or.inl rfl) H
      · have H := hf12 q
        refine hw_k (c := 1) (b := 0) (e := 1) (by decide +kernel) ?_
        refine hw_goto (a0 := 0) (b := 0) (e := 81) (by decide +kernel) ?_
        refine hw_st (L' := (jm_st1 (jm_st1 [(0, (2, 192)), (1, (0, v1)), (2, (0, v2)), (3, (0, v3))] 4 (0, 0)) 4 (0, 1))) (b := 4) (e := 1) (by decide +kernel) rfl ?_
        refine hw_ald (b := 0) (e := 0) (by decide +kernel) (get_st1 (get_st1 rfl (by decide) (fun q => absurd q.1 (by decide))) (by decide) (fun q => absurd q.1 (by decide))) (by decide) ?_
        refine hr_gr (w := 194) (b := 12) (e := 6) 192 rfl (by decide +kernel) ?_
        refine hw_k (c := 112) (b := 1) (e := 2) (by decide +kernel) ?_
        refine hw_ld (b := 2) (e := 0) (by decide +kernel) (get_st1 (get_st1 rfl (by decide) (fun q => absurd q.1 (by decide))) (by decide) (fun q => absurd q.1 (by decide))) ?_
        refine hw_bin (w := 112 + v2) (a0 := 0) (b := 0) (e := 0) (by decide +kernel) rfl ?_
        refine hw_k (c := 0) (b := 0) (e := 1) (by decide +kernel) ?_
        obtain ⟨hl16, hu16, H⟩ := H
        refine hr_as (a0 := 0) (e := 4) (n := 361) 194 rfl (by decide +kernel) hl16 hu16 ?_
        refine hw_goto (a0 := 0) (b := 0) (e := 168) (by decide +kernel) ?_
        refine hw_ld (b := 4) (e := 1) (by decide +kernel) get_st1e ?_
        refine hw_if (a0 := 0) (b := 5) (e := 183) (by decide +kernel) (by unfold hi; omega) (fun q => absurd (show (1 : Int) ≤ 0 from q) (by decide)) (fun _ => ?_)
        refine hw_k (c := 10) (b := 1) (e := 2) (by decide +kernel) ?_
        refine hw_ld (b := 1) (e := 0) (by decide +kernel) (get_st1 (get_st1 rfl (by decide) (fun q => absurd q.1 (by decide))) (by decide) (fun q => absurd q.1 (by decide))) ?_
        refine hw_bin (w := 10 * v1) (a0 := 0) (b := 2) (e := 0) (by decide +kernel) rfl ?_
        refine hw_ld (b := 4) (e := 1) (by decide +kernel) get_st1e ?_
        refine hw_bin (w := (10 * v1) + 1) (a0 := 0) (b := 0) (e := 0) (by decide +kernel) rfl ?_
        refine hw_goto (a0 := 0) (b := 0) (e := 184) (by decide +kernel) ?_
        exact hw_ret (a0 := 0) (e := 0) (by decide +kernel) (Or.inl rfl) H
    | 2, htq, hzq =>
      cases htq
      have H := H.2.2.1 (by omega)
      refine hw_ald (b := 0) (e := 0) (by decide +kernel) (get_st1 rfl (by decide) (fun q => absurd q.1 (by decide))) (by decide) ?_
      refine hw_ld (b := 2) (e := 0) (by decide +kernel) (get_st1 rfl (by decide) (fun q => absurd q.1 (by decide))) ?_
      refine hr_call (a0 := 22) (b := 219) (e := 2) (nl := 2) (As := [(0, v2)]) (R := []) 192 rfl (by decide +kernel) rfl rfl (Nat.le_of_ble_eq_true rfl) (Nat.le_of_ble_eq_true rfl) ?_
      refine hw_mono H ?_
      rintro r ψ19 y19 ⟨hyx, hψx, z19, hr, H⟩
      subst hyx
      subst hψx
      subst hr
      refine ⟨hne0, ?_⟩
      show hw sc (d + 4) 261 101 (jm_st1 [(0, (2, 192)), (1, (0, v1)), (2, (0, v2)), (3, (0, v3))] 4 (0, 0)) [(0, z19)] φ y19 Q
      refine hw_st (L' := (jm_st1 (jm_st1 [(0, (2, 192)), (1, (0, v1)), (2, (0, v2)), (3, (0, v3))] 4 (0, 0)) 4 (0, z19))) (b := 4) (e := 1) (by decide +kernel) rfl ?_
      refine hw_ld (b := 4) (e := 1) (by decide +kernel) get_st1e ?_
      obtain ⟨hz20, ht20, hf20⟩ := H
      refine hw_if (a0 := 0) (b := 1) (e := 168) (by decide +kernel) hz20 (fun q => ?_) (fun q => ?_)
      · have H := ht20 q
        refine hw_ld (b := 4) (e := 1) (by decide +kernel) get_st1e ?_
        obtain ⟨hz21, ht21, hf21⟩ := H
        refine hw_if (a0 := 0) (b := 5) (e := 183) (by decide +kernel) hz21 (fun q => ?_) (fun q => ?_)
        · have H := ht21 q
          refine hw_k (c := 0) (b := 0) (e := 1) (by decide +kernel) ?_
          exact hw_ret (a0 := 0) (e := 0) (by decide +kernel) (Or.inl rfl) H
        · have H := hf21 q
          refine hw_k (c := 10) (b := 1) (e := 2) (by decide +kernel) ?_
          refine hw_ld (b := 1) (e := 0) (by decide +kernel) (get_st1 (get_st1 rfl (by decide) (fun q => absurd q.1 (by decide))) (by decide) (fun q => absurd q.1 (by decide))) ?_
          refine hw_bin (w := 10 * v1) (a0 := 0) (b := 2) (e := 0) (by decide +kernel) rfl ?_
          refine hw_ld (b := 4) (e := 1) (by decide +kernel) get_st1e ?_
          refine hw_bin (w := (10 * v1) + z19) (a0 := 0) (b := 0) (e := 0) (by decide +kernel) rfl ?_
          refine hw_goto (a0 := 0) (b := 0) (e := 184) (by decide +kernel) ?_
          exact hw_ret (a0 := 0) (e := 0) (by decide +kernel) (Or.inl rfl) H
      · have H := hf20 q
        refine hw_ald (b := 0) (e := 0) (by decide +kernel) (get_st1 (get_st1 rfl (by decide) (fun q => absurd q.1 (by decide))) (by decide) (fun q => absurd q.1 (by decide))) (by decide) ?_
        refine hw_ld (b := 2) (e := 0) (by decide +kernel) (get_st1 (get_st1 rfl (by decide) (fun q => absurd q.1 (by decide))) (by decide) (fun q => absurd q.1 (by decide))) ?_
        refine hw_ld (b := 3) (e := 0) (by decide +kernel) (get_st1 (get_st1 rfl (by decide) (fun q => tg0 q.2)) (by decide) (fun q => tg0 q.2)) ?_
        refine hr_call (a0 := 22) (b := 220) (e := 3) (nl := 3) (As := [(0, v2), (0, v3)]) (R := []) 192 rfl (by decide +kernel) rfl rfl (Nat.le_of_ble_eq_true rfl) (Nat.le_of_ble_eq_true rfl) ?_
        refine hw_mono H ?_
        rintro r ψ24 y24 ⟨hyx, hr, H⟩
        subst hyx
        subst hr
        refine ⟨hnen, ?_⟩
        show hw sc (d + 4) 261 114 (jm_st1 (jm_st1 [(0, (2, 192)), (1, (0, v1)), (2, (0, v2)), (3, (0, v3))] 4 (0, 0)) 4 (0, z19)) [] ψ24 y24 Q
        refine hw_goto (a0 := 0) (b := 0) (e := 168) (by decide +kernel) ?_
        refine hw_ld (b := 4) (e := 1) (by decide +kernel) get_st1e ?_
        obtain ⟨hz25, ht25, hf25⟩ := H
        refine hw_if (a0 := 0) (b := 5) (e := 183) (by decide +kernel) hz25 (fun q => ?_) (fun q => ?_)
        · have H := ht25 q
          refine hw_k (c := 0) (b := 0) (e := 1) (by decide +kernel) ?_
          exact hw_ret (a0 := 0) (e := 0) (by decide +kernel) (Or.inl rfl) H
        · have H := hf25 q
          refine hw_k (c := 10) (b := 1) (e := 2) (by decide +kernel) ?_
          refine hw_ld (b := 1) (e := 0) (by decide +kernel) (get_st1 (get_st1 rfl (by decide) (fun q => absurd q.1 (by decide))) (by decide) (fun q => absurd q.1 (by decide))) ?_
          refine hw_bin (w := 10 * v1) (a0 := 0) (b := 2) (e := 0) (by decide +kernel) rfl ?_
          refine hw_ld (b := 4) (e := 1) (by decide +kernel) get_st1e ?_
          refine hw_bin (w := (10 * v1) + z19) (a0 := 0) (b := 0) (e := 0) (by decide +kernel) rfl ?_
          refine hw_goto (a0 := 0) (b := 0) (e := 184) (by decide +kernel) ?_
          exact hw_ret (a0 := 0) (e := 0) (by decide +kernel) (Or.inl rfl) H
    | 3, htq, hzq =>
      cases htq
      have H := H.2.2.2.1 (by omega)
      refine hw_ald (b := 0) (e := 0) (by decide +kernel) (get_st1 rfl (by decide) (fun q => absurd q.1 (by decide))) (by decide) ?_
      refine hr_call (a0 := 22) (b := 222) (e := 1) (nl := 1) (As := []) (R := []) 192 rfl (by decide +kernel) rfl rfl (Nat.le_of_ble_eq_true rfl) (Nat.le_of_ble_eq_true rfl) ?_
      refine hw_mono H ?_
      rintro r ψ28 y28 ⟨hyx, hψx, z28, hr, H⟩
      subst hyx
      subst hψx
      subst hr
      refine ⟨hne0, ?_⟩
      show hw sc (d + 4) 261 121 (jm_st1 [(0, (2, 192)), (1, (0, v1)), (2, (0, v2)), (3, (0, v3))] 4 (0, 0)) [(0, z28)] φ y28 Q
      refine hw_st (L' := (jm_st1 (jm_st1 [(0, (2, 192)), (1, (0, v1)), (2, (0, v2)), (3, (0, v3))] 4 (0, 0)) 4 (0, z28))) (b := 4) (e := 1) (by decide +kernel) rfl ?_
      refine hw_ld (b := 4) (e := 1) (by decide +kernel) get_st1e ?_
      obtain ⟨hz29, ht29, hf29⟩ := H
      refine hw_if (a0 := 0) (b := 1) (e := 168) (by decide +kernel) hz29 (fun q => ?_) (fun q => ?_)
      · have H := ht29 q
        refine hw_ld (b := 4) (e := 1) (by decide +kernel) get_st1e ?_
        obtain ⟨hz30, ht30, hf30⟩ := H
        refine hw_if (a0 := 0) (b := 5) (e := 183) (by decide +kernel) hz30 (fun q => ?_) (fun q => ?_)
        · have H := ht30 q
          refine hw_k (c := 0) (b := 0) (e := 1) (by decide +kernel) ?_
          exact hw_ret (a0 := 0) (e := 0) (by decide +kernel) (Or.inl rfl) H
        · have H := hf30 q
          refine hw_k (c := 10) (b := 1) (e := 2) (by decide +kernel) ?_
          refine hw_ld (b := 1) (e := 0) (by decide +kernel) (get_st1 (get_st1 rfl (by decide) (fun q => absurd q.1 (by decide))) (by decide) (fun q => absurd q.1 (by decide))) ?_
          refine hw_bin (w := 10 * v1) (a0 := 0) (b := 2) (e := 0) (by decide +kernel) rfl ?_
          refine hw_ld (b := 4) (e := 1) (by decide +kernel) get_st1e ?_
          refine hw_bin (w := (10 * v1) + z28) (a0 := 0) (b := 0) (e := 0) (by decide +kernel) rfl ?_
          refine hw_goto (a0 := 0) (b := 0) (e := 184) (by decide +kernel) ?_
          exact hw_ret (a0 := 0) (e := 0) (by decide +kernel) (Or.inl rfl) H
      · have H := hf29 q
        refine hw_ald (b := 0) (e := 0) (by decide +kernel) (get_st1 (get_st1 rfl (by decide) (fun q => absurd q.1 (by decide))) (by decide) (fun q => absurd q.1 (by decide))) (by decide) ?_
        refine hr_call (a0 := 22) (b := 223) (e := 1) (nl := 2) (As := []) (R := []) 192 rfl (by decide +kernel) rfl rfl (Nat.le_of_ble_eq_true rfl) (Nat.le_of_ble_eq_true rfl) ?_
        refine hw_mono H ?_
        rintro r ψ33 y33 ⟨hyx, hr, H⟩
        subst hyx
        subst hr
        refine ⟨hnen, ?_⟩
        show hw sc (d + 4) 261 132 (jm_st1 (jm_st1 [(0, (2, 192)), (1, (0, v1)), (2, (0, v2)), (3, (0, v3))] 4 (0, 0)) 4 (0, z28)) [] ψ33 y33 Q
        refine hw_goto (a0 := 0) (b := 0) (e := 168) (by decide +kernel) ?_
        refine hw_ld (b := 4) (e := 1) (by decide +kernel) get_st1e ?_
        obtain ⟨hz34, ht34, hf34⟩ := H
        refine hw_if (a0 := 0) (b := 5) (e := 183) (by decide +kernel) hz34 (fun q => ?_) (fun q => ?_)
        · have H := ht34 q
          refine hw_k (c := 0) (b := 0) (e := 1) (by decide +kernel) ?_
          exact hw_ret (a0 := 0) (e := 0) (by decide +kernel) (Or.inl rfl) H
        · have H := hf34 q
          refine hw_k (c := 10) (b := 1) (e := 2) (by decide +kernel) ?_
          refine hw_ld (b := 1) (e := 0) (by decide +kernel) (get_st1 (get_st1 rfl (by decide) (fun q => absurd q.1 (by decide))) (by decide) (fun q => absurd q.1 (by decide))) ?_
          refine hw_bin (w := 10 * v1) (a0 := 0) (b := 2) (e := 0) (by decide +kernel) rfl ?_
          refine hw_ld (b := 4) (e := 1) (by decide +kernel) get_st1e ?_
          refine hw_bin (w := (10 * v1) + z28) (a0 := 0) (b := 0) (e := 0) (by decide +kernel) rfl ?_
          refine hw_goto (a0 := 0) (b := 0) (e := 184) (by decide +kernel) ?_
          exact hw_ret (a0 := 0) (e := 0) (by decide +kernel) (Or.inl rfl) H
    | kq + 4, htq, _ => cases htq
theorem sf_261_192 {sc : List Int} {d : Nat} {φ : hf_F} {x : Nat} {Q : Option jm_V → hf_F → Nat → Prop} {v1 v2 v3 : Int} (hI : Inv φ) (h1a : (-1 : Int) ≤ v1) (h1b : v1 ≤ 8214) (h2a : (-1 : Int) ≤ v2) (h2b : v2 ≤ 8214) (h3a : (-1 : Int) ≤ v3) (h3b : v3 ≤ 8214) (hp0 : (v1 = 0 → 0 ≤ v2 ∧ v2 ≤ 5 ∧ 0 ≤ v3 ∧ v3 ≤ 7)) (hp1 : (v1 = 1 → 0 ≤ v2 ∧ v2 ≤ 5)) (hp2 : (v1 = 2 → 0 ≤ v2 ∧ v2 ≤ 5 ∧ 0 ≤ v3 ∧ v3 ≤ 7)) (hQ : ∀ (r : Int) (ψ : hf_F), Inv ψ → Fr [194] φ ψ → True → Q (some (0, r)) ψ x) : hw sc (d + 4) 261 0 [(0, (2, 192)), (1, (0, v1)), (2, (0, v2)), (3, (0, v3))] [] φ x Q := by
  apply sf_261_192_v
  refine ⟨by unfold hi; omega, fun q1 => ?_, fun q1 => ?_, fun q1 => ?_, fun q1 => ?_, fun q1 => ?_⟩
  · skip
    refine sf_215_192 (φ := φ) hI (by omega) (by omega) (by omega) (by omega) (fun z2 hp2 => ⟨rfl, rfl, z2, rfl, ?_⟩)
    refine ⟨by unfold hi; omega, fun q3 => ?_, fun q3 => ?_⟩
    · skip
      refine ⟨by unfold hi; omega, fun q4 => ?_, fun q4 => ?_⟩
      · skip
        exact hQ 0 φ hI (fr_rf) trivial
      · skip
        exact hQ ((10 * v1) + z2) φ hI (fr_rf) trivial
    · skip
      refine ⟨by omega, by omega, ?_⟩
      have i1 : Inv (hf_up φ 194 ((112 + v2).toNat) (v3 + 1)) := iv_upI (s := 112) (t := 118) (lo := 0) (u := 8) (z := 112 + v2) hI (by decide +kernel) (by omega) (by omega) (by omega) (by omega)
      have r1 : Fr [194] φ (hf_up φ 194 ((112 + v2).toNat) (v3 + 1)) := fr_up (fr_rf) (by decide)
      refine ⟨by unfold hi; omega, fun q8 => ?_, fun q8 => ?_⟩
      · skip
        exact hQ 0 (hf_up φ 194 ((112 + v2).toNat) (v3 + 1)) i1 r1 trivial
      · skip
        exact hQ ((10 * v1) + z2) (hf_up φ 194 ((112 + v2).toNat) (v3 + 1)) i1 r1 trivial
  · skip
    refine ⟨by omega, by omega, ?_⟩
    have f2 := iv_ar (a := 194) (s := 112) (t := 118) (lo := 0) (u := 8) (z := 112 + v2) hI (by decide +kernel) (by omega) (by omega)
    refine ⟨by unfold hi; omega, fun q12 => ?_, fun q12 => ?_⟩
    · skip
      refine ⟨by omega, by omega, ?_⟩
      have i3 : Inv (hf_up φ 194 ((112 + v2).toNat) 0) := iv_upI (s := 112) (t := 118) (lo := 0) (u := 8) (z := 112 + v2) hI (by decide +kernel) (by omega) (by omega) (by omega) (by omega)
      have r3 : Fr [194] φ (hf_up φ 194 ((112 + v2).toNat) 0) := fr_up (fr_rf) (by decide)
      exact hQ 0 (hf_up φ 194 ((112 + v2).toNat) 0) i3 r3 trivial
    · skip
      refine ⟨by omega, by omega, ?_⟩
      have i4 : Inv (hf_up φ 194 ((112 + v2).toNat) 0) := iv_upI (s := 112) (t := 118) (lo := 0) (u := 8) (z := 112 + v2) hI (by decide +kernel) (by omega) (by omega) (by omega) (by omega)
      have r4 : Fr [194] φ (hf_up φ 194 ((112 + v2).toNat) 0) := fr_up (fr_rf) (by decide)
      exact hQ ((10 * v1) + 1) (hf_up φ 194 ((112 + v2).toNat) 0) i4 r4 trivial
  · skip
    refine sf_219_192 (φ := φ) hI (by omega) (by omega) (fun z19 hp19 => ⟨rfl, rfl, z19, rfl, ?_⟩)
    have f5 := iv_ar (a := 194) (s := 118) (t := 124) (lo := 0) (u := 6) (z := 118 + v2) hI (by decide +kernel) (by omega) (by omega)
    refine ⟨by unfold hi; omega, fun q20 => ?_, fun q20 => ?_⟩
    · skip
      refine ⟨by unfold hi; omega, fun q21 => ?_, fun q21 => ?_⟩
      · skip
        exact hQ 0 φ hI (fr_rf) trivial
      · skip
        exact hQ ((10 * v1) + z19) φ hI (fr_rf) trivial
    · skip
      have f6 := iv_ar (a := 194) (s := 118) (t := 124) (lo := 0) (u := 6) (z := 118 + v3) hI (by decide +kernel) (by omega) (by omega)
      refine sf_220_192 (φ := φ) hI (by omega) (by omega) (by omega) (by omega) (by omega) (fun ψ24 hI24 hF24 => ⟨rfl, rfl, ?_⟩)
      have hG24 : Fr [194] φ ψ24 := fr_tr (fr_rf) hF24 (by decide)
      refine ⟨by unfold hi; omega, fun q25 => ?_, fun q25 => ?_⟩
      · skip
        exact hQ 0 ψ24 hI24 hG24 trivial
      · skip
        exact hQ ((10 * v1) + z19) ψ24 hI24 hG24 trivial
  · skip
    refine sf_222_192 (φ := φ) hI  (fun z28 hp28 => ⟨rfl, rfl, z28, rfl, ?_⟩)
    refine ⟨by unfold hi; omega, fun q29 => ?_, fun q29 => ?_⟩
    · skip
      refine ⟨by unfold hi; omega, fun q30 => ?_, fun q30 => ?_⟩
      · skip
        exact hQ 0 φ hI (fr_rf) trivial
      · skip
        exact hQ ((10 * v1) + z28) φ hI (fr_rf) trivial
    · skip
      refine sf_223_192 (φ := φ) hI  (fun ψ33 hI33 hF33 => ⟨rfl, rfl, ?_⟩)
      have hG33 : Fr [194] φ ψ33 := fr_tr (fr_rf) hF33 (by decide)
      refine ⟨by unfold hi; omega, fun q34 => ?_, fun q34 => ?_⟩
      · skip
        exact hQ 0 ψ33 hI33 hG33 trivial
      · skip
        exact hQ ((10 * v1) + z28) ψ33 hI33 hG33 trivial
  · skip
    have f7 := hr_n ((φ 194 99) + v2)
    refine ⟨by unfold hi; omega, fun q37 => ?_, fun q37 => ?_⟩
    · skip
      refine sf_225_192 (φ := φ) hI (by omega) (by omega) (fun z39 ψ39 hI39 hF39 hp39 => ⟨rfl, z39, rfl, ?_⟩)
      have hG39 : Fr [194] φ ψ39 := fr_tr (fr_rf) hF39 (by decide)
      exact hQ 0 ψ39 hI39 hG39 trivial
    · skip
      exact hQ ((10 * v1) + 1) φ hI (fr_rf) trivial
